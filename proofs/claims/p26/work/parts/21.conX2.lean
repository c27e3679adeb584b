set_option maxHeartbeats 4000000 in
set_option maxRecDepth 100000 in
theorem kX2_copyFrom (l : Launch) (D : va_G) (cI cR : ClassId) (q : Nat → Nat) (G : Nat → Nat → Int32) (K : Nat) (p0 : Nat) (p1 : Nat) (hJ : MJ tmC q) (hp0 : ∀ o, o < 12 → tmC[p0 + o]? = (tmS p0)[o]?) (hp1 : ∀ o, o < 12 → tmC[p1 + o]? = (tmS p1)[o]?) (r : (Nat → Nat → Int32)) (hs : sX2_copyFrom K G p0 p1 = some r) : Met l yX2_copyFrom wsX2_copyFrom ({ frames := 1, cells := 0, slots := 0, locals := 68 } : Room) (mPre [.ref (q p0), .ref (q p1)] D cI cR q tmC G) (mVW D cI cR q tmC r) 0 0 (MA tmC q) := by
  refine Met.ofW (cc := cX2_copyFrom) (maxL := 2) (ret := none) (by decide) rfl ?_
  intro p e s m args below meth c s₁ B hml hv
  obtain ⟨hargs, hM, hK⟩ := hv
  have hx := B.exec
  have hb := B.bytes
  have hr := B.returns
  have hts := atoms_spec (ws := wsX2_copyFrom) B.pre
  have hown : s.vm.findClass RX2 = some m.cls := findClass_of_methodNamed B.named
  have hlocks := B.notSynchronized
  have hA : ∀ a, MA tmC q a → MA tmC q a := fun _ h => h
  have hS : va_S (MA tmC q) s.heap s.heap [] := va_S.rf
  have w0 := hts (Cond.fieldLink RX2 45 "CoinRails$State" "kinds" "I") (List.mem_of_getElem? (i := 1) (by decide +kernel))
  have iX2 : ∀ w ∈ wsX20, w ∈ wsX2_copyFrom := fun _ h => List.mem_cons_of_mem _ (List.mem_append_right _ (h))
  have w2 := hts (Cond.fieldLink RX2 9 "CoinRails$State" "diameter" "[I") (List.mem_of_getElem? (i := 2) (by decide +kernel))
  have w3 := hts (Cond.methodLink RX2 49 arraycopyName) (List.mem_of_getElem? (i := 3) (by decide +kernel))
  have w4 := hts (Cond.native arraycopyName) (List.mem_of_getElem? (i := 4) (by decide +kernel))
  have w5 := hts (Cond.static arraycopyName) (List.mem_of_getElem? (i := 5) (by decide +kernel))
  have w6 := hts (Cond.initialized "java/lang/System") (List.mem_of_getElem? (i := 6) (by decide +kernel))
  have w7 := hts (Cond.fieldLink RX2 15 "CoinRails$State" "worth" "[I") (List.mem_of_getElem? (i := 7) (by decide +kernel))
  have w8 := hts (Cond.fieldLink RX2 18 "CoinRails$State" "home" "[I") (List.mem_of_getElem? (i := 8) (by decide +kernel))
  have w9 := hts (Cond.fieldLink RX2 21 "CoinRails$State" "fed" "[I") (List.mem_of_getElem? (i := 9) (by decide +kernel))
  have w10 := hts (Cond.fieldLink RX2 24 "CoinRails$State" "rejects" "[I") (List.mem_of_getElem? (i := 10) (by decide +kernel))
  have w11 := hts (Cond.fieldLink RX2 27 "CoinRails$State" "gap" "[I") (List.mem_of_getElem? (i := 11) (by decide +kernel))
  have w12 := hts (Cond.fieldLink RX2 30 "CoinRails$State" "use" "[I") (List.mem_of_getElem? (i := 12) (by decide +kernel))
  have w13 := hts (Cond.fieldLink RX2 33 "CoinRails$State" "stuckKind" "[I") (List.mem_of_getElem? (i := 13) (by decide +kernel))
  have w14 := hts (Cond.fieldLink RX2 36 "CoinRails$State" "stuckWear" "[I") (List.mem_of_getElem? (i := 14) (by decide +kernel))
  have w15 := hts (Cond.fieldLink RX2 39 "CoinRails$State" "rolled" "[I") (List.mem_of_getElem? (i := 15) (by decide +kernel))
  have w16 := hts (Cond.fieldLink RX2 42 "CoinRails$State" "bags" "[I") (List.mem_of_getElem? (i := 16) (by decide +kernel))
  have w17 := hts (Cond.fieldLink RX2 55 "CoinRails$State" "takenAway" "I") (List.mem_of_getElem? (i := 17) (by decide +kernel))
  subst hargs
  have hl := lv_entry ([.ref (q p0), .ref (q p1)]) (n := 2) (Nat.le_of_ble_eq_true rfl)
  rw [lg_entry_eq]
  generalize (lg_sl ([.ref (q p0), .ref (q p1)]) ++ List.replicate (2 - (lg_sl ([.ref (q p0), .ref (q p1)])).length) Slot.unset).toArray = ls at hl ⊢
  have hl : lv_has ls 2 [(0, .ref (q p0)), (1, .ref (q p1))] := hl
  have h := hs
  unfold sX2_copyFrom at h
  have hM0 := hM
  refine lv_aload_n hx hb dX2_copyFrom_0 rfl (lv_at hl 0 rfl) ?_
  refine lv_aload_n hx hb dX2_copyFrom_1 rfl (lv_at hl 1 rfl) ?_
  refine k_getI (C := RX2) (T := TX2) (N := 13) hx hb hts iX2 hown hK hM p1 ((hp1 0 (by decide)).trans rfl) rfl 0 (by decide) rfl w0 (fun _ h9 => h9) dX2_copyFrom_2 ?_
  refine k_putI (C := RX2) (T := TX2) (N := 13) (v := (G p1 0)) hx hb hts iX2 tyX2 tyX2_ok nmX2 hown hK hM hJ hA hS p0 ((hp0 0 (by decide)).trans rfl) rfl 0 (by decide) rfl w0 (fun _ h9 => h9) rfl (by decide +kernel) dX2_copyFrom_5 (fun H locs hM hS => ?_)
  obtain ⟨G7, eG7, h⟩ := olet_s h
  rw [eG7] at hM
  refine lv_aload_n hx hb dX2_copyFrom_8 rfl (lv_at hl 1 rfl) ?_
  refine k_getR (C := RX2) (T := TX2) (N := 13) hx hb hts iX2 hown hK hM p1 ((hp1 0 (by decide)).trans rfl) rfl 1 (by decide) rfl w2 (fun _ h9 => h9) dX2_copyFrom_9 ?_
  refine lv_iconst (v := 0) hx hb dX2_copyFrom_12 (by decide) ?_
  refine lv_aload_n hx hb dX2_copyFrom_13 rfl (lv_at hl 0 rfl) ?_
  refine k_getR (C := RX2) (T := TX2) (N := 13) hx hb hts iX2 hown hK hM p0 ((hp0 0 (by decide)).trans rfl) rfl 1 (by decide) rfl w2 (fun _ h9 => h9) dX2_copyFrom_14 ?_
  refine lv_iconst (v := 0) hx hb dX2_copyFrom_17 (by decide) ?_
  refine lv_bipush (v := 6) hx hb dX2_copyFrom_18 (by decide) ?_
  refine k_copyi hx hb (hml.trans hl.1.symm) hown w3 w4 w5 w6 hK hM hJ hA hS (p1 + 1) (p0 + 1) ((hp1 1 (by decide)).trans rfl) ((hp0 1 (by decide)).trans rfl) (by decide) (by decide) (by decide) (Nat.le_of_ble_eq_true rfl) (Nat.le_of_ble_eq_true rfl) dX2_copyFrom_20 (fun H locs hM hS => ?_)
  obtain ⟨G22, eG22, h⟩ := olet_s h
  rw [eG22] at hM
  refine lv_aload_n hx hb dX2_copyFrom_23 rfl (lv_at hl 1 rfl) ?_
  refine k_getR (C := RX2) (T := TX2) (N := 13) hx hb hts iX2 hown hK hM p1 ((hp1 0 (by decide)).trans rfl) rfl 2 (by decide) rfl w7 (fun _ h9 => h9) dX2_copyFrom_24 ?_
  refine lv_iconst (v := 0) hx hb dX2_copyFrom_27 (by decide) ?_
  refine lv_aload_n hx hb dX2_copyFrom_28 rfl (lv_at hl 0 rfl) ?_
  refine k_getR (C := RX2) (T := TX2) (N := 13) hx hb hts iX2 hown hK hM p0 ((hp0 0 (by decide)).trans rfl) rfl 2 (by decide) rfl w7 (fun _ h9 => h9) dX2_copyFrom_29 ?_
  refine lv_iconst (v := 0) hx hb dX2_copyFrom_32 (by decide) ?_
  refine lv_bipush (v := 6) hx hb dX2_copyFrom_33 (by decide) ?_
  refine k_copyi hx hb (hml.trans hl.1.symm) hown w3 w4 w5 w6 hK hM hJ hA hS (p1 + 2) (p0 + 2) ((hp1 2 (by decide)).trans rfl) ((hp0 2 (by decide)).trans rfl) (by decide) (by decide) (by decide) (Nat.le_of_ble_eq_true rfl) (Nat.le_of_ble_eq_true rfl) dX2_copyFrom_35 (fun H locs hM hS => ?_)
  obtain ⟨G37, eG37, h⟩ := olet_s h
  rw [eG37] at hM
  refine lv_aload_n hx hb dX2_copyFrom_38 rfl (lv_at hl 1 rfl) ?_
  refine k_getR (C := RX2) (T := TX2) (N := 13) hx hb hts iX2 hown hK hM p1 ((hp1 0 (by decide)).trans rfl) rfl 3 (by decide) rfl w8 (fun _ h9 => h9) dX2_copyFrom_39 ?_
  refine lv_iconst (v := 0) hx hb dX2_copyFrom_42 (by decide) ?_
  refine lv_aload_n hx hb dX2_copyFrom_43 rfl (lv_at hl 0 rfl) ?_
  refine k_getR (C := RX2) (T := TX2) (N := 13) hx hb hts iX2 hown hK hM p0 ((hp0 0 (by decide)).trans rfl) rfl 3 (by decide) rfl w8 (fun _ h9 => h9) dX2_copyFrom_44 ?_
  refine lv_iconst (v := 0) hx hb dX2_copyFrom_47 (by decide) ?_
  refine lv_bipush (v := 6) hx hb dX2_copyFrom_48 (by decide) ?_
  refine k_copyi hx hb (hml.trans hl.1.symm) hown w3 w4 w5 w6 hK hM hJ hA hS (p1 + 3) (p0 + 3) ((hp1 3 (by decide)).trans rfl) ((hp0 3 (by decide)).trans rfl) (by decide) (by decide) (by decide) (Nat.le_of_ble_eq_true rfl) (Nat.le_of_ble_eq_true rfl) dX2_copyFrom_50 (fun H locs hM hS => ?_)
  obtain ⟨G52, eG52, h⟩ := olet_s h
  rw [eG52] at hM
  refine lv_aload_n hx hb dX2_copyFrom_53 rfl (lv_at hl 1 rfl) ?_
  refine k_getR (C := RX2) (T := TX2) (N := 13) hx hb hts iX2 hown hK hM p1 ((hp1 0 (by decide)).trans rfl) rfl 4 (by decide) rfl w9 (fun _ h9 => h9) dX2_copyFrom_54 ?_
  refine lv_iconst (v := 0) hx hb dX2_copyFrom_57 (by decide) ?_
  refine lv_aload_n hx hb dX2_copyFrom_58 rfl (lv_at hl 0 rfl) ?_
  refine k_getR (C := RX2) (T := TX2) (N := 13) hx hb hts iX2 hown hK hM p0 ((hp0 0 (by decide)).trans rfl) rfl 4 (by decide) rfl w9 (fun _ h9 => h9) dX2_copyFrom_59 ?_
  refine lv_iconst (v := 0) hx hb dX2_copyFrom_62 (by decide) ?_
  refine lv_bipush (v := 6) hx hb dX2_copyFrom_63 (by decide) ?_
  refine k_copyi hx hb (hml.trans hl.1.symm) hown w3 w4 w5 w6 hK hM hJ hA hS (p1 + 4) (p0 + 4) ((hp1 4 (by decide)).trans rfl) ((hp0 4 (by decide)).trans rfl) (by decide) (by decide) (by decide) (Nat.le_of_ble_eq_true rfl) (Nat.le_of_ble_eq_true rfl) dX2_copyFrom_65 (fun H locs hM hS => ?_)
  obtain ⟨G67, eG67, h⟩ := olet_s h
  rw [eG67] at hM
  refine lv_aload_n hx hb dX2_copyFrom_68 rfl (lv_at hl 1 rfl) ?_
  refine k_getR (C := RX2) (T := TX2) (N := 13) hx hb hts iX2 hown hK hM p1 ((hp1 0 (by decide)).trans rfl) rfl 5 (by decide) rfl w10 (fun _ h9 => h9) dX2_copyFrom_69 ?_
  refine lv_iconst (v := 0) hx hb dX2_copyFrom_72 (by decide) ?_
  refine lv_aload_n hx hb dX2_copyFrom_73 rfl (lv_at hl 0 rfl) ?_
  refine k_getR (C := RX2) (T := TX2) (N := 13) hx hb hts iX2 hown hK hM p0 ((hp0 0 (by decide)).trans rfl) rfl 5 (by decide) rfl w10 (fun _ h9 => h9) dX2_copyFrom_74 ?_
  refine lv_iconst (v := 0) hx hb dX2_copyFrom_77 (by decide) ?_
  refine lv_bipush (v := 6) hx hb dX2_copyFrom_78 (by decide) ?_
  refine k_copyi hx hb (hml.trans hl.1.symm) hown w3 w4 w5 w6 hK hM hJ hA hS (p1 + 5) (p0 + 5) ((hp1 5 (by decide)).trans rfl) ((hp0 5 (by decide)).trans rfl) (by decide) (by decide) (by decide) (Nat.le_of_ble_eq_true rfl) (Nat.le_of_ble_eq_true rfl) dX2_copyFrom_80 (fun H locs hM hS => ?_)
  obtain ⟨G82, eG82, h⟩ := olet_s h
  rw [eG82] at hM
  refine lv_aload_n hx hb dX2_copyFrom_83 rfl (lv_at hl 1 rfl) ?_
  refine k_getR (C := RX2) (T := TX2) (N := 13) hx hb hts iX2 hown hK hM p1 ((hp1 0 (by decide)).trans rfl) rfl 6 (by decide) rfl w11 (fun _ h9 => h9) dX2_copyFrom_84 ?_
  refine lv_iconst (v := 0) hx hb dX2_copyFrom_87 (by decide) ?_
  refine lv_aload_n hx hb dX2_copyFrom_88 rfl (lv_at hl 0 rfl) ?_
  refine k_getR (C := RX2) (T := TX2) (N := 13) hx hb hts iX2 hown hK hM p0 ((hp0 0 (by decide)).trans rfl) rfl 6 (by decide) rfl w11 (fun _ h9 => h9) dX2_copyFrom_89 ?_
  refine lv_iconst (v := 0) hx hb dX2_copyFrom_92 (by decide) ?_
  refine lv_bipush (v := 6) hx hb dX2_copyFrom_93 (by decide) ?_
  refine k_copyi hx hb (hml.trans hl.1.symm) hown w3 w4 w5 w6 hK hM hJ hA hS (p1 + 6) (p0 + 6) ((hp1 6 (by decide)).trans rfl) ((hp0 6 (by decide)).trans rfl) (by decide) (by decide) (by decide) (Nat.le_of_ble_eq_true rfl) (Nat.le_of_ble_eq_true rfl) dX2_copyFrom_95 (fun H locs hM hS => ?_)
  obtain ⟨G97, eG97, h⟩ := olet_s h
  rw [eG97] at hM
  refine lv_aload_n hx hb dX2_copyFrom_98 rfl (lv_at hl 1 rfl) ?_
  refine k_getR (C := RX2) (T := TX2) (N := 13) hx hb hts iX2 hown hK hM p1 ((hp1 0 (by decide)).trans rfl) rfl 7 (by decide) rfl w12 (fun _ h9 => h9) dX2_copyFrom_99 ?_
  refine lv_iconst (v := 0) hx hb dX2_copyFrom_102 (by decide) ?_
  refine lv_aload_n hx hb dX2_copyFrom_103 rfl (lv_at hl 0 rfl) ?_
  refine k_getR (C := RX2) (T := TX2) (N := 13) hx hb hts iX2 hown hK hM p0 ((hp0 0 (by decide)).trans rfl) rfl 7 (by decide) rfl w12 (fun _ h9 => h9) dX2_copyFrom_104 ?_
  refine lv_iconst (v := 0) hx hb dX2_copyFrom_107 (by decide) ?_
  refine lv_bipush (v := 6) hx hb dX2_copyFrom_108 (by decide) ?_
  refine k_copyi hx hb (hml.trans hl.1.symm) hown w3 w4 w5 w6 hK hM hJ hA hS (p1 + 7) (p0 + 7) ((hp1 7 (by decide)).trans rfl) ((hp0 7 (by decide)).trans rfl) (by decide) (by decide) (by decide) (Nat.le_of_ble_eq_true rfl) (Nat.le_of_ble_eq_true rfl) dX2_copyFrom_110 (fun H locs hM hS => ?_)
  obtain ⟨G112, eG112, h⟩ := olet_s h
  rw [eG112] at hM
  refine lv_aload_n hx hb dX2_copyFrom_113 rfl (lv_at hl 1 rfl) ?_
  refine k_getR (C := RX2) (T := TX2) (N := 13) hx hb hts iX2 hown hK hM p1 ((hp1 0 (by decide)).trans rfl) rfl 8 (by decide) rfl w13 (fun _ h9 => h9) dX2_copyFrom_114 ?_
  refine lv_iconst (v := 0) hx hb dX2_copyFrom_117 (by decide) ?_
  refine lv_aload_n hx hb dX2_copyFrom_118 rfl (lv_at hl 0 rfl) ?_
  refine k_getR (C := RX2) (T := TX2) (N := 13) hx hb hts iX2 hown hK hM p0 ((hp0 0 (by decide)).trans rfl) rfl 8 (by decide) rfl w13 (fun _ h9 => h9) dX2_copyFrom_119 ?_
  refine lv_iconst (v := 0) hx hb dX2_copyFrom_122 (by decide) ?_
  refine lv_bipush (v := 6) hx hb dX2_copyFrom_123 (by decide) ?_
  refine k_copyi hx hb (hml.trans hl.1.symm) hown w3 w4 w5 w6 hK hM hJ hA hS (p1 + 8) (p0 + 8) ((hp1 8 (by decide)).trans rfl) ((hp0 8 (by decide)).trans rfl) (by decide) (by decide) (by decide) (Nat.le_of_ble_eq_true rfl) (Nat.le_of_ble_eq_true rfl) dX2_copyFrom_125 (fun H locs hM hS => ?_)
  obtain ⟨G127, eG127, h⟩ := olet_s h
  rw [eG127] at hM
  refine lv_aload_n hx hb dX2_copyFrom_128 rfl (lv_at hl 1 rfl) ?_
  refine k_getR (C := RX2) (T := TX2) (N := 13) hx hb hts iX2 hown hK hM p1 ((hp1 0 (by decide)).trans rfl) rfl 9 (by decide) rfl w14 (fun _ h9 => h9) dX2_copyFrom_129 ?_
  refine lv_iconst (v := 0) hx hb dX2_copyFrom_132 (by decide) ?_
  refine lv_aload_n hx hb dX2_copyFrom_133 rfl (lv_at hl 0 rfl) ?_
  refine k_getR (C := RX2) (T := TX2) (N := 13) hx hb hts iX2 hown hK hM p0 ((hp0 0 (by decide)).trans rfl) rfl 9 (by decide) rfl w14 (fun _ h9 => h9) dX2_copyFrom_134 ?_
  refine lv_iconst (v := 0) hx hb dX2_copyFrom_137 (by decide) ?_
  refine lv_bipush (v := 6) hx hb dX2_copyFrom_138 (by decide) ?_
  refine k_copyi hx hb (hml.trans hl.1.symm) hown w3 w4 w5 w6 hK hM hJ hA hS (p1 + 9) (p0 + 9) ((hp1 9 (by decide)).trans rfl) ((hp0 9 (by decide)).trans rfl) (by decide) (by decide) (by decide) (Nat.le_of_ble_eq_true rfl) (Nat.le_of_ble_eq_true rfl) dX2_copyFrom_140 (fun H locs hM hS => ?_)
  obtain ⟨G142, eG142, h⟩ := olet_s h
  rw [eG142] at hM
  refine lv_aload_n hx hb dX2_copyFrom_143 rfl (lv_at hl 1 rfl) ?_
  refine k_getR (C := RX2) (T := TX2) (N := 13) hx hb hts iX2 hown hK hM p1 ((hp1 0 (by decide)).trans rfl) rfl 10 (by decide) rfl w15 (fun _ h9 => h9) dX2_copyFrom_144 ?_
  refine lv_iconst (v := 0) hx hb dX2_copyFrom_147 (by decide) ?_
  refine lv_aload_n hx hb dX2_copyFrom_148 rfl (lv_at hl 0 rfl) ?_
  refine k_getR (C := RX2) (T := TX2) (N := 13) hx hb hts iX2 hown hK hM p0 ((hp0 0 (by decide)).trans rfl) rfl 10 (by decide) rfl w15 (fun _ h9 => h9) dX2_copyFrom_149 ?_
  refine lv_iconst (v := 0) hx hb dX2_copyFrom_152 (by decide) ?_
  refine lv_bipush (v := 6) hx hb dX2_copyFrom_153 (by decide) ?_
  refine k_copyi hx hb (hml.trans hl.1.symm) hown w3 w4 w5 w6 hK hM hJ hA hS (p1 + 10) (p0 + 10) ((hp1 10 (by decide)).trans rfl) ((hp0 10 (by decide)).trans rfl) (by decide) (by decide) (by decide) (Nat.le_of_ble_eq_true rfl) (Nat.le_of_ble_eq_true rfl) dX2_copyFrom_155 (fun H locs hM hS => ?_)
  obtain ⟨G157, eG157, h⟩ := olet_s h
  rw [eG157] at hM
  refine lv_aload_n hx hb dX2_copyFrom_158 rfl (lv_at hl 1 rfl) ?_
  refine k_getR (C := RX2) (T := TX2) (N := 13) hx hb hts iX2 hown hK hM p1 ((hp1 0 (by decide)).trans rfl) rfl 11 (by decide) rfl w16 (fun _ h9 => h9) dX2_copyFrom_159 ?_
  refine lv_iconst (v := 0) hx hb dX2_copyFrom_162 (by decide) ?_
  refine lv_aload_n hx hb dX2_copyFrom_163 rfl (lv_at hl 0 rfl) ?_
  refine k_getR (C := RX2) (T := TX2) (N := 13) hx hb hts iX2 hown hK hM p0 ((hp0 0 (by decide)).trans rfl) rfl 11 (by decide) rfl w16 (fun _ h9 => h9) dX2_copyFrom_164 ?_
  refine lv_iconst (v := 0) hx hb dX2_copyFrom_167 (by decide) ?_
  refine lv_bipush (v := 36) hx hb dX2_copyFrom_168 (by decide) ?_
  refine k_copyi hx hb (hml.trans hl.1.symm) hown w3 w4 w5 w6 hK hM hJ hA hS (p1 + 11) (p0 + 11) ((hp1 11 (by decide)).trans rfl) ((hp0 11 (by decide)).trans rfl) (by decide) (by decide) (by decide) (Nat.le_of_ble_eq_true rfl) (Nat.le_of_ble_eq_true rfl) dX2_copyFrom_170 (fun H locs hM hS => ?_)
  obtain ⟨G172, eG172, h⟩ := olet_s h
  rw [eG172] at hM
  refine lv_aload_n hx hb dX2_copyFrom_173 rfl (lv_at hl 0 rfl) ?_
  refine lv_aload_n hx hb dX2_copyFrom_174 rfl (lv_at hl 1 rfl) ?_
  refine k_getI (C := RX2) (T := TX2) (N := 13) hx hb hts iX2 hown hK hM p1 ((hp1 0 (by decide)).trans rfl) rfl 12 (by decide) rfl w17 (fun _ h9 => h9) dX2_copyFrom_175 ?_
  refine k_putI (C := RX2) (T := TX2) (N := 13) (v := (G172 p1 12)) hx hb hts iX2 tyX2 tyX2_ok nmX2 hown hK hM hJ hA hS p0 ((hp0 0 (by decide)).trans rfl) rfl 12 (by decide) rfl w17 (fun _ h9 => h9) rfl (by decide +kernel) dX2_copyFrom_178 (fun H locs hM hS => ?_)
  obtain ⟨G180, eG180, h⟩ := olet_s h
  rw [eG180] at hM
  have h := Option.some.inj h
  exact W.vret hx hb hr (fun t ht hW => ⟨⟨(), rfl, trivial, w_end ht hM h⟩, hS.F ht⟩) hS.2.2 dX2_copyFrom_181
set_option maxHeartbeats 4000000 in
set_option maxRecDepth 100000 in
theorem kX2_putKind (l : Launch) (D : va_G) (cI cR : ClassId) (q : Nat → Nat) (G : Nat → Nat → Int32) (K : Nat) (p1 : Int32) (p2 : Int32) (p3 : Int32) (hJ : MJ tmC q) (r : (Int32 × (Nat → Nat → Int32))) (hs : sX2_putKind K G p1 p2 p3 = some r) : Met l yX2_putKind wsX2_putKind ({ frames := 0, cells := 0, slots := 0, locals := 0 } : Room) (mPre [.ref (q 1), .int p1, .int p2, .int p3] D cI cR q tmC G) (mIW D cI cR q tmC r) 0 0 (MA tmC q) := by
  refine Met.ofW (cc := cX2_putKind) (maxL := 5) (ret := (some .int)) (by decide) rfl ?_
  intro p e s m args below meth c s₁ B hml hv
  obtain ⟨hargs, hM, hK⟩ := hv
  have hx := B.exec
  have hb := B.bytes
  have hr := B.returns
  have hts := atoms_spec (ws := wsX2_putKind) B.pre
  have hown : s.vm.findClass RX2 = some m.cls := findClass_of_methodNamed B.named
  have hlocks := B.notSynchronized
  have hA : ∀ a, MA tmC q a → MA tmC q a := fun _ h => h
  have hS : va_S (MA tmC q) s.heap s.heap [] := va_S.rf
  have w0 := hts (Cond.fieldLink RX2 45 "CoinRails$State" "kinds" "I") (List.mem_of_getElem? (i := 1) (by decide +kernel))
  have iX2 : ∀ w ∈ wsX20, w ∈ wsX2_putKind := fun _ h => List.mem_cons_of_mem _ (List.mem_append_right _ (h))
  have w2 := hts (Cond.fieldLink RX2 9 "CoinRails$State" "diameter" "[I") (List.mem_of_getElem? (i := 2) (by decide +kernel))
  have w3 := hts (Cond.fieldLink RX2 15 "CoinRails$State" "worth" "[I") (List.mem_of_getElem? (i := 3) (by decide +kernel))
  have w4 := hts (Cond.fieldLink RX2 18 "CoinRails$State" "home" "[I") (List.mem_of_getElem? (i := 4) (by decide +kernel))
  subst hargs
  have hl := lv_entry ([.ref (q 1), .int p1, .int p2, .int p3]) (n := 5) (Nat.le_of_ble_eq_true rfl)
  rw [lg_entry_eq]
  generalize (lg_sl ([.ref (q 1), .int p1, .int p2, .int p3]) ++ List.replicate (5 - (lg_sl ([.ref (q 1), .int p1, .int p2, .int p3])).length) Slot.unset).toArray = ls at hl ⊢
  have hl : lv_has ls 5 [(0, .ref (q 1)), (1, .int p1), (2, .int p2), (3, .int p3)] := hl
  have h := hs
  unfold sX2_putKind at h
  have hM0 := hM
  refine lv_aload_n hx hb dX2_putKind_0 rfl (lv_at hl 0 rfl) ?_
  refine k_getI (C := RX2) (T := TX2) (N := 13) hx hb hts iX2 hown hK hM 1 rfl rfl 0 (by decide) rfl w0 (fun _ h9 => h9) dX2_putKind_1 ?_
  refine lv_istore (lv' := [(4, .int (G 1 0)), (0, .ref (q 1)), (1, .int p1), (2, .int p2), (3, .int p3)]) hx hb dX2_putKind_4 hl (by decide) rfl (fun ls hl => ?_)
  refine lv_aload_n hx hb dX2_putKind_6 rfl (lv_at hl 1 rfl) ?_
  refine k_getR (C := RX2) (T := TX2) (N := 13) hx hb hts iX2 hown hK hM 1 rfl rfl 1 (by decide) rfl w2 (fun _ h9 => h9) dX2_putKind_7 ?_
  refine lv_iload hx hb dX2_putKind_10 (lv_at hl 0 rfl) ?_
  refine lv_iload_n hx hb dX2_putKind_12 rfl (lv_at hl 2 rfl) ?_
  obtain ⟨g13, h⟩ := grd_s h
  refine k_iast (v := p1) hx hb hK hM hJ hA hS 2 rfl g13 dX2_putKind_13 (fun H locs hM hS => ?_)
  obtain ⟨G15, eG15, h⟩ := olet_s h
  rw [eG15] at hM
  refine lv_aload_n hx hb dX2_putKind_14 rfl (lv_at hl 1 rfl) ?_
  refine k_getR (C := RX2) (T := TX2) (N := 13) hx hb hts iX2 hown hK hM 1 rfl rfl 2 (by decide) rfl w3 (fun _ h9 => h9) dX2_putKind_15 ?_
  refine lv_iload hx hb dX2_putKind_18 (lv_at hl 0 rfl) ?_
  refine lv_iload_n hx hb dX2_putKind_20 rfl (lv_at hl 3 rfl) ?_
  obtain ⟨g21, h⟩ := grd_s h
  refine k_iast (v := p2) hx hb hK hM hJ hA hS 3 rfl g21 dX2_putKind_21 (fun H locs hM hS => ?_)
  obtain ⟨G23, eG23, h⟩ := olet_s h
  rw [eG23] at hM
  refine lv_aload_n hx hb dX2_putKind_22 rfl (lv_at hl 1 rfl) ?_
  refine k_getR (C := RX2) (T := TX2) (N := 13) hx hb hts iX2 hown hK hM 1 rfl rfl 3 (by decide) rfl w4 (fun _ h9 => h9) dX2_putKind_23 ?_
  refine lv_iload hx hb dX2_putKind_26 (lv_at hl 0 rfl) ?_
  refine lv_iload_n hx hb dX2_putKind_28 rfl (lv_at hl 4 rfl) ?_
  obtain ⟨g29, h⟩ := grd_s h
  refine k_iast (v := p3) hx hb hK hM hJ hA hS 4 rfl g29 dX2_putKind_29 (fun H locs hM hS => ?_)
  obtain ⟨G31, eG31, h⟩ := olet_s h
  rw [eG31] at hM
  refine lv_aload_n hx hb dX2_putKind_30 rfl (lv_at hl 1 rfl) ?_
  refine lv_dup hx hb dX2_putKind_31 rfl ?_
  refine k_getI (C := RX2) (T := TX2) (N := 13) hx hb hts iX2 hown hK hM 1 rfl rfl 0 (by decide) rfl w0 (fun _ h9 => h9) dX2_putKind_32 ?_
  refine lv_iconst (v := 1) hx hb dX2_putKind_35 (by decide) ?_
  refine lv_iadd hx hb dX2_putKind_36 ?_
  refine k_putI (C := RX2) (T := TX2) (N := 13) (v := ((G31 1 0) + (1 : Int32))) hx hb hts iX2 tyX2 tyX2_ok nmX2 hown hK hM hJ hA hS 1 rfl rfl 0 (by decide) rfl w0 (fun _ h9 => h9) rfl (by decide +kernel) dX2_putKind_37 (fun H locs hM hS => ?_)
  obtain ⟨G39, eG39, h⟩ := olet_s h
  rw [eG39] at hM
  refine lv_iload hx hb dX2_putKind_40 (lv_at hl 0 rfl) ?_
  have h := Option.some.inj h
  exact W.iret (v := (G 1 0)) hx hb hr (fun t ht hW => ⟨⟨(G 1 0), (), rfl, p_fst h, w_end ht hM (p_snd h)⟩, hS.F ht⟩) hS.2.2 dX2_putKind_42
set_option maxHeartbeats 4000000 in
set_option maxRecDepth 100000 in
theorem kX2_isStuck (l : Launch) (D : va_G) (cI cR : ClassId) (q : Nat → Nat) (G : Nat → Nat → Int32) (K : Nat) (p1 : Int32) (r : Int32) (hs : sX2_isStuck K G p1 = some r) : Met l yX2_isStuck wsX2_isStuck ({ frames := 0, cells := 0, slots := 0, locals := 0 } : Room) (mPre [.ref (q 1), .int p1] D cI cR q tmC G) (mI r) 0 0 (fun _ => False) := by
  refine Met.ofW (cc := cX2_isStuck) (maxL := 2) (ret := (some .boolean)) (by decide) rfl ?_
  intro p e s m args below meth c s₁ B hml hv
  obtain ⟨hargs, hM, hK⟩ := hv
  have hx := B.exec
  have hb := B.bytes
  have hr := B.returns
  have hts := atoms_spec (ws := wsX2_isStuck) B.pre
  have hown : s.vm.findClass RX2 = some m.cls := findClass_of_methodNamed B.named
  have hlocks := B.notSynchronized
  have hS : va_S (fun _ => False) s.heap s.heap [] := va_S.rf
  have w0 := hts (Cond.fieldLink RX2 33 "CoinRails$State" "stuckKind" "[I") (List.mem_of_getElem? (i := 1) (by decide +kernel))
  have iX2 : ∀ w ∈ wsX20, w ∈ wsX2_isStuck := fun _ h => List.mem_cons_of_mem _ (List.mem_append_right _ (h))
  subst hargs
  have hl := lv_entry ([.ref (q 1), .int p1]) (n := 2) (Nat.le_of_ble_eq_true rfl)
  rw [lg_entry_eq]
  generalize (lg_sl ([.ref (q 1), .int p1]) ++ List.replicate (2 - (lg_sl ([.ref (q 1), .int p1])).length) Slot.unset).toArray = ls at hl ⊢
  have hl : lv_has ls 2 [(0, .ref (q 1)), (1, .int p1)] := hl
  have h := hs
  unfold sX2_isStuck at h
  have hM0 := hM
  refine lv_aload_n hx hb dX2_isStuck_0 rfl (lv_at hl 0 rfl) ?_
  refine k_getR (C := RX2) (T := TX2) (N := 13) hx hb hts iX2 hown hK hM 1 rfl rfl 8 (by decide) rfl w0 (fun _ h9 => h9) dX2_isStuck_1 ?_
  refine lv_iload_n hx hb dX2_isStuck_4 rfl (lv_at hl 1 rfl) ?_
  obtain ⟨g5, h⟩ := grd_s h
  refine k_iald hx hb hK hM 9 rfl g5 dX2_isStuck_5 ?_
  refine lv_iconst (v := -1) hx hb dX2_isStuck_6 (by decide) ?_
  refine lv_icmp_eq (tgt := 14) hx hb dX2_isStuck_7 (by decide) (fun c7 => ?_) (fun c7 => ?_)
  · replace h := ite_t h c7
    refine lv_iconst (v := 0) hx hb dX2_isStuck_14 (by decide) ?_
    exact W.zret (ty := .boolean) (v := (0 : Int32)) hx hb hr rfl (fun t ht hW => ⟨⟨(0 : Int32), (), rfl, Option.some.inj h, trivial⟩, hS.F ht⟩) hS.2.2 dX2_isStuck_15
  · replace h := ite_f h c7
    refine lv_iconst (v := 1) hx hb dX2_isStuck_10 (by decide) ?_
    refine lv_goto (tgt := 15) hx hb dX2_isStuck_11 (by decide) ?_
    exact W.zret (ty := .boolean) (v := (1 : Int32)) hx hb hr rfl (fun t ht hW => ⟨⟨(1 : Int32), (), rfl, Option.some.inj h, trivial⟩, hS.F ht⟩) hS.2.2 dX2_isStuck_15
set_option maxHeartbeats 4000000 in
set_option maxRecDepth 100000 in
theorem kX2_coinsIn (l : Launch) (D : va_G) (cI cR : ClassId) (q : Nat → Nat) (G : Nat → Nat → Int32) (K : Nat) (p1 : Int32) (r : Int32) (hs : sX2_coinsIn K G p1 = some r) : Met l yX2_coinsIn wsX2_coinsIn ({ frames := 0, cells := 0, slots := 0, locals := 0 } : Room) (mPre [.ref (q 1), .int p1] D cI cR q tmC G) (mI r) 0 0 (fun _ => False) := by
  refine Met.ofW (cc := cX2_coinsIn) (maxL := 4) (ret := (some .int)) (by decide) rfl ?_
  intro p e s m args below meth c s₁ B hml hv
  obtain ⟨hargs, hM, hK⟩ := hv
  have hx := B.exec
  have hb := B.bytes
  have hr := B.returns
  have hts := atoms_spec (ws := wsX2_coinsIn) B.pre
  have hown : s.vm.findClass RX2 = some m.cls := findClass_of_methodNamed B.named
  have hlocks := B.notSynchronized
  have hS : va_S (fun _ => False) s.heap s.heap [] := va_S.rf
  have w0 := hts (Cond.fieldLink RX2 42 "CoinRails$State" "bags" "[I") (List.mem_of_getElem? (i := 1) (by decide +kernel))
  have iX2 : ∀ w ∈ wsX20, w ∈ wsX2_coinsIn := fun _ h => List.mem_cons_of_mem _ (List.mem_append_right _ (h))
  have L4 : ∀ (n : Nat), ∀ (G : Nat → Nat → Int32) (x2 : Int32) (x3 : Int32) (H : Heap) (locs : List Loc) (ls : Array Slot), sX2_coinsIn_L4 K G p1 n x2 x3 = some r → MW D cI cR q tmC G H → va_S (fun _ => False) s.heap H locs → lv_has ls 4 [(0, .ref (q 1)), (1, .int p1), (2, .int x2), (3, .int x3)] → W p l e (headSpec wsX2_coinsIn ({ frames := 0, cells := 0, slots := 0, locals := 0 } : Room)).room s m args below meth c H locs 0 0 (MQ below (mI r) args s 0 0 (fun _ => False)) (F0 m 4 ls []) := by
    clear hM hS
    intro n
    induction n with
    | zero => exact fun _ _ _ _ _ _ h => absurd h (by simp [sX2_coinsIn_L4])
    | succ n ih =>
      intro G x2 x3 H locs ls h hM hS hl
      rw [sX2_coinsIn_L4] at h
      refine lv_iload_n hx hb dX2_coinsIn_4 rfl (lv_at hl 3 rfl) ?_
      refine lv_bipush (v := 6) hx hb dX2_coinsIn_5 (by decide) ?_
      refine lv_icmp_ge (tgt := 30) hx hb dX2_coinsIn_7 (by decide) (fun c7 => ?_) (fun c7 => ?_)
      · replace h := ite_t h c7
        refine lv_iload_n hx hb dX2_coinsIn_30 rfl (lv_at hl 2 rfl) ?_
        exact W.iret (v := x2) hx hb hr (fun t ht hW => ⟨⟨x2, (), rfl, Option.some.inj h, trivial⟩, hS.F ht⟩) hS.2.2 dX2_coinsIn_31
      · replace h := ite_f h c7
        refine lv_iload_n hx hb dX2_coinsIn_10 rfl (lv_at hl 2 rfl) ?_
        refine lv_aload_n hx hb dX2_coinsIn_11 rfl (lv_at hl 0 rfl) ?_
        refine k_getR (C := RX2) (T := TX2) (N := 13) hx hb hts iX2 hown hK hM 1 rfl rfl 11 (by decide) rfl w0 (fun _ h9 => h9) dX2_coinsIn_12 ?_
        refine lv_iload_n hx hb dX2_coinsIn_15 rfl (lv_at hl 1 rfl) ?_
        refine lv_bipush (v := 6) hx hb dX2_coinsIn_16 (by decide) ?_
        refine lv_imul hx hb dX2_coinsIn_18 ?_
        refine lv_iload_n hx hb dX2_coinsIn_19 rfl (lv_at hl 3 rfl) ?_
        refine lv_iadd hx hb dX2_coinsIn_20 ?_
        obtain ⟨g21, h⟩ := grd_s h
        refine k_iald hx hb hK hM 12 rfl g21 dX2_coinsIn_21 ?_
        refine lv_iadd hx hb dX2_coinsIn_22 ?_
        refine lv_istore_n (lv' := [(2, .int (x2 + (G 12 ((p1 * (6 : Int32)) + x3).toNatClampNeg))), (0, .ref (q 1)), (1, .int p1), (3, .int x3)]) hx hb dX2_coinsIn_23 rfl hl (by decide) rfl (fun ls hl => ?_)
        refine lv_iinc (v := (x3 + 1)) (lv' := [(3, .int (x3 + 1)), (2, .int (x2 + (G 12 ((p1 * (6 : Int32)) + x3).toNatClampNeg))), (0, .ref (q 1)), (1, .int p1)]) hx hb dX2_coinsIn_24 hl (k := 3) rfl (congrArg (fun z : Int32 => x3 + z) (show Int32.ofInt (1) = 1 by decide)) (by decide) rfl (fun ls hl => ?_)
        refine lv_goto (tgt := 4) hx hb dX2_coinsIn_27 (by decide) ?_
        exact ih G (x2 + (G 12 ((p1 * (6 : Int32)) + x3).toNatClampNeg)) (x3 + 1) _ _ _ h hM hS (lv_sub hl [2, 3, 1, 0] rfl)
  subst hargs
  have hl := lv_entry ([.ref (q 1), .int p1]) (n := 4) (Nat.le_of_ble_eq_true rfl)
  rw [lg_entry_eq]
  generalize (lg_sl ([.ref (q 1), .int p1]) ++ List.replicate (4 - (lg_sl ([.ref (q 1), .int p1])).length) Slot.unset).toArray = ls at hl ⊢
  have hl : lv_has ls 4 [(0, .ref (q 1)), (1, .int p1)] := hl
  have h := hs
  unfold sX2_coinsIn at h
  have hM0 := hM
  refine lv_iconst (v := 0) hx hb dX2_coinsIn_0 (by decide) ?_
  refine lv_istore_n (lv' := [(2, .int (0 : Int32)), (0, .ref (q 1)), (1, .int p1)]) hx hb dX2_coinsIn_1 rfl hl (by decide) rfl (fun ls hl => ?_)
  refine lv_iconst (v := 0) hx hb dX2_coinsIn_2 (by decide) ?_
  refine lv_istore_n (lv' := [(3, .int (0 : Int32)), (2, .int (0 : Int32)), (0, .ref (q 1)), (1, .int p1)]) hx hb dX2_coinsIn_3 rfl hl (by decide) rfl (fun ls hl => ?_)
  exact L4 K G (0 : Int32) (0 : Int32) _ _ _ h hM hS (lv_sub hl [2, 3, 1, 0] rfl)
set_option maxHeartbeats 4000000 in
set_option maxRecDepth 100000 in
theorem kX2_isFull (l : Launch) (D : va_G) (cI cR : ClassId) (q : Nat → Nat) (G : Nat → Nat → Int32) (K : Nat) (p1 : Int32) (r : Int32) (hs : sX2_isFull K G p1 = some r) : Met l yX2_isFull wsX2_isFull ({ frames := 1, cells := 0, slots := 0, locals := 23 } : Room) (mPre [.ref (q 1), .int p1] D cI cR q tmC G) (mI r) 0 0 (fun _ => False) := by
  refine Met.ofW (cc := cX2_isFull) (maxL := 2) (ret := (some .boolean)) (by decide) rfl ?_
  intro p e s m args below meth c s₁ B hml hv
  obtain ⟨hargs, hM, hK⟩ := hv
  have hx := B.exec
  have hb := B.bytes
  have hr := B.returns
  have hts := atoms_spec (ws := wsX2_isFull) B.pre
  have hown : s.vm.findClass RX2 = some m.cls := findClass_of_methodNamed B.named
  have hlocks := B.notSynchronized
  have hS : va_S (fun _ => False) s.heap s.heap [] := va_S.rf
  subst hargs
  have hl := lv_entry ([.ref (q 1), .int p1]) (n := 2) (Nat.le_of_ble_eq_true rfl)
  rw [lg_entry_eq]
  generalize (lg_sl ([.ref (q 1), .int p1]) ++ List.replicate (2 - (lg_sl ([.ref (q 1), .int p1])).length) Slot.unset).toArray = ls at hl ⊢
  have hl : lv_has ls 2 [(0, .ref (q 1)), (1, .int p1)] := hl
  have h := hs
  unfold sX2_isFull at h
  have hM0 := hM
  refine lv_aload_n hx hb dX2_isFull_0 rfl (lv_at hl 0 rfl) ?_
  refine lv_iload_n hx hb dX2_isFull_1 rfl (lv_at hl 1 rfl) ?_
  obtain ⟨r2, e2, h⟩ := bind_s h
  refine k_cI (va_runV (As := [.int p1]) (rest := []) ⟨hx, hb, hml, hown, hts⟩ (kX2_coinsIn l D cI cR q G K p1 r2 e2) (cwV 1 hts gX2_isFull_X2_coinsIn rfl rfl rfl (by decide +kernel) ⟨Nat.le_of_ble_eq_true rfl, Nat.le_of_ble_eq_true rfl⟩) (mPreV hK hM 1 rfl rfl) rfl rfl hl.1 rfl (lv_room (Nat.le_of_ble_eq_true rfl)) dX2_isFull_2 ⟨Nat.le_of_ble_eq_true rfl, Nat.le_of_ble_eq_true rfl⟩) hS hM (fun H locs hM hS => ?_)
  refine lv_bipush (v := 40) hx hb dX2_isFull_5 (by decide) ?_
  refine lv_icmp_lt (tgt := 14) hx hb dX2_isFull_7 (by decide) (fun c7 => ?_) (fun c7 => ?_)
  · replace h := ite_t h c7
    refine lv_iconst (v := 0) hx hb dX2_isFull_14 (by decide) ?_
    exact W.zret (ty := .boolean) (v := (0 : Int32)) hx hb hr rfl (fun t ht hW => ⟨⟨(0 : Int32), (), rfl, Option.some.inj h, trivial⟩, hS.F ht⟩) hS.2.2 dX2_isFull_15
  · replace h := ite_f h c7
    refine lv_iconst (v := 1) hx hb dX2_isFull_10 (by decide) ?_
    refine lv_goto (tgt := 15) hx hb dX2_isFull_11 (by decide) ?_
    exact W.zret (ty := .boolean) (v := (1 : Int32)) hx hb hr rfl (fun t ht hW => ⟨⟨(1 : Int32), (), rfl, Option.some.inj h, trivial⟩, hS.F ht⟩) hS.2.2 dX2_isFull_15
set_option maxHeartbeats 4000000 in
set_option maxRecDepth 100000 in
theorem kX2_wearAt (l : Launch) (D : va_G) (cI cR : ClassId) (q : Nat → Nat) (G : Nat → Nat → Int32) (K : Nat) (p1 : Int32) (p2 : Int32) (r : Int32) (hs : sX2_wearAt K G p1 p2 = some r) : Met l yX2_wearAt wsX2_wearAt ({ frames := 1, cells := 0, slots := 0, locals := 21 } : Room) (mPre [.ref (q 1), .int p1, .int p2] D cI cR q tmC G) (mI r) 0 0 (fun _ => False) := by
  refine Met.ofW (cc := cX2_wearAt) (maxL := 3) (ret := (some .int)) (by decide) rfl ?_
  intro p e s m args below meth c s₁ B hml hv
  obtain ⟨hargs, hM, hK⟩ := hv
  have hx := B.exec
  have hb := B.bytes
  have hr := B.returns
  have hts := atoms_spec (ws := wsX2_wearAt) B.pre
  have hown : s.vm.findClass RX2 = some m.cls := findClass_of_methodNamed B.named
  have hlocks := B.notSynchronized
  have hS : va_S (fun _ => False) s.heap s.heap [] := va_S.rf
  have w0 := hts (Cond.methodLink RX2 81 Lib.Math.min.name) (List.mem_of_getElem? (i := 1) (by decide +kernel))
  have w1 := hts (Cond.static Lib.Math.min.name) (List.mem_of_getElem? (i := 2) (by decide +kernel))
  have w2 := hts (Cond.initialized "java/lang/Math") (List.mem_of_getElem? (i := 3) (by decide +kernel))
  have w3 := hts (Cond.code Lib.Math.min.name Lib.Math.min.code 2 (some .int)) (List.mem_of_getElem? (i := 4) (by decide +kernel))
  subst hargs
  have hl := lv_entry ([.ref (q 1), .int p1, .int p2]) (n := 3) (Nat.le_of_ble_eq_true rfl)
  rw [lg_entry_eq]
  generalize (lg_sl ([.ref (q 1), .int p1, .int p2]) ++ List.replicate (3 - (lg_sl ([.ref (q 1), .int p1, .int p2])).length) Slot.unset).toArray = ls at hl ⊢
  have hl : lv_has ls 3 [(0, .ref (q 1)), (1, .int p1), (2, .int p2)] := hl
  have h := hs
  unfold sX2_wearAt at h
  have hM0 := hM
  refine lv_sipush (v := 999) hx hb dX2_wearAt_0 (by decide) ?_
  refine lv_iload_n hx hb dX2_wearAt_3 rfl (lv_at hl 2 rfl) ?_
  refine lv_iload_n hx hb dX2_wearAt_4 rfl (lv_at hl 1 rfl) ?_
  refine lv_iadd hx hb dX2_wearAt_5 ?_
  refine va_mmin hx hb (hml.trans hl.1.symm) hown w0 w1 w2 w3 (Nat.le_of_ble_eq_true rfl) (Nat.le_of_ble_eq_true rfl) (Nat.le_of_ble_eq_true rfl) (Nat.le_of_ble_eq_true rfl) dX2_wearAt_6 ?_
  exact W.iret (v := (if (p2 + p1) < (999 : Int32) then (p2 + p1) else (999 : Int32))) hx hb hr (fun t ht hW => ⟨⟨(if (p2 + p1) < (999 : Int32) then (p2 + p1) else (999 : Int32)), (), rfl, Option.some.inj h, trivial⟩, hS.F ht⟩) hS.2.2 dX2_wearAt_9
set_option maxHeartbeats 4000000 in
set_option maxRecDepth 100000 in
theorem kX2_size (l : Launch) (D : va_G) (cI cR : ClassId) (q : Nat → Nat) (G : Nat → Nat → Int32) (K : Nat) (p1 : Int32) (p2 : Int32) (r : Int32) (hs : sX2_size K G p1 p2 = some r) : Met l yX2_size wsX2_size ({ frames := 1, cells := 0, slots := 0, locals := 21 } : Room) (mPre [.ref (q 1), .int p1, .int p2] D cI cR q tmC G) (mI r) 0 0 (fun _ => False) := by
  refine Met.ofW (cc := cX2_size) (maxL := 3) (ret := (some .int)) (by decide) rfl ?_
  intro p e s m args below meth c s₁ B hml hv
  obtain ⟨hargs, hM, hK⟩ := hv
  have hx := B.exec
  have hb := B.bytes
  have hr := B.returns
  have hts := atoms_spec (ws := wsX2_size) B.pre
  have hown : s.vm.findClass RX2 = some m.cls := findClass_of_methodNamed B.named
  have hlocks := B.notSynchronized
  have hS : va_S (fun _ => False) s.heap s.heap [] := va_S.rf
  have w0 := hts (Cond.fieldLink RX2 9 "CoinRails$State" "diameter" "[I") (List.mem_of_getElem? (i := 1) (by decide +kernel))
  have iX2 : ∀ w ∈ wsX20, w ∈ wsX2_size := fun _ h => List.mem_cons_of_mem _ (List.mem_append_right _ (h))
  have w2 := hts (Cond.methodLink RX2 76 Lib.Math.max.name) (List.mem_of_getElem? (i := 2) (by decide +kernel))
  have w3 := hts (Cond.static Lib.Math.max.name) (List.mem_of_getElem? (i := 3) (by decide +kernel))
  have w4 := hts (Cond.initialized "java/lang/Math") (List.mem_of_getElem? (i := 4) (by decide +kernel))
  have w5 := hts (Cond.code Lib.Math.max.name Lib.Math.max.code 2 (some .int)) (List.mem_of_getElem? (i := 5) (by decide +kernel))
  subst hargs
  have hl := lv_entry ([.ref (q 1), .int p1, .int p2]) (n := 3) (Nat.le_of_ble_eq_true rfl)
  rw [lg_entry_eq]
  generalize (lg_sl ([.ref (q 1), .int p1, .int p2]) ++ List.replicate (3 - (lg_sl ([.ref (q 1), .int p1, .int p2])).length) Slot.unset).toArray = ls at hl ⊢
  have hl : lv_has ls 3 [(0, .ref (q 1)), (1, .int p1), (2, .int p2)] := hl
  have h := hs
  unfold sX2_size at h
  have hM0 := hM
  refine lv_iconst (v := 1) hx hb dX2_size_0 (by decide) ?_
  refine lv_aload_n hx hb dX2_size_1 rfl (lv_at hl 0 rfl) ?_
  refine k_getR (C := RX2) (T := TX2) (N := 13) hx hb hts iX2 hown hK hM 1 rfl rfl 1 (by decide) rfl w0 (fun _ h9 => h9) dX2_size_2 ?_
  refine lv_iload_n hx hb dX2_size_5 rfl (lv_at hl 1 rfl) ?_
  obtain ⟨g6, h⟩ := grd_s h
  refine k_iald hx hb hK hM 2 rfl g6 dX2_size_6 ?_
  refine lv_iload_n hx hb dX2_size_7 rfl (lv_at hl 2 rfl) ?_
  refine lv_isub hx hb dX2_size_8 ?_
  refine va_mmax hx hb (hml.trans hl.1.symm) hown w2 w3 w4 w5 (Nat.le_of_ble_eq_true rfl) (Nat.le_of_ble_eq_true rfl) (Nat.le_of_ble_eq_true rfl) (Nat.le_of_ble_eq_true rfl) dX2_size_9 ?_
  exact W.iret (v := (if (1 : Int32) < ((G 2 p1.toNatClampNeg) - p2) then ((G 2 p1.toNatClampNeg) - p2) else (1 : Int32))) hx hb hr (fun t ht hW => ⟨⟨(if (1 : Int32) < ((G 2 p1.toNatClampNeg) - p2) then ((G 2 p1.toNatClampNeg) - p2) else (1 : Int32)), (), rfl, Option.some.inj h, trivial⟩, hS.F ht⟩) hS.2.2 dX2_size_12
set_option maxHeartbeats 4000000 in
set_option maxRecDepth 100000 in
theorem kX2_placeFor (l : Launch) (D : va_G) (cI cR : ClassId) (q : Nat → Nat) (G : Nat → Nat → Int32) (K : Nat) (p1 : Int32) (p2 : Int32) (r : Int32) (hs : sX2_placeFor K G p1 p2 = some r) : Met l yX2_placeFor wsX2_placeFor ({ frames := 2, cells := 0, slots := 0, locals := 44 } : Room) (mPre [.ref (q 1), .int p1, .int p2] D cI cR q tmC G) (mI r) 0 0 (fun _ => False) := by
  refine Met.ofW (cc := cX2_placeFor) (maxL := 6) (ret := (some .int)) (by decide) rfl ?_
  intro p e s m args below meth c s₁ B hml hv
  obtain ⟨hargs, hM, hK⟩ := hv
  have hx := B.exec
  have hb := B.bytes
  have hr := B.returns
  have hts := atoms_spec (ws := wsX2_placeFor) B.pre
  have hown : s.vm.findClass RX2 = some m.cls := findClass_of_methodNamed B.named
  have hlocks := B.notSynchronized
  have hS : va_S (fun _ => False) s.heap s.heap [] := va_S.rf
  have w0 := hts (Cond.fieldLink RX2 27 "CoinRails$State" "gap" "[I") (List.mem_of_getElem? (i := 1) (by decide +kernel))
  have iX2 : ∀ w ∈ wsX20, w ∈ wsX2_placeFor := fun _ h => List.mem_cons_of_mem _ (List.mem_append_right _ (h))
  have L2 : ∀ (n : Nat), ∀ (G : Nat → Nat → Int32) (x3 : Int32) (H : Heap) (locs : List Loc) (ls : Array Slot), sX2_placeFor_L2 K G p1 p2 n x3 = some r → MW D cI cR q tmC G H → va_S (fun _ => False) s.heap H locs → lv_has ls 6 [(0, .ref (q 1)), (1, .int p1), (2, .int p2), (3, .int x3)] → W p l e (headSpec wsX2_placeFor ({ frames := 2, cells := 0, slots := 0, locals := 44 } : Room)).room s m args below meth c H locs 0 0 (MQ below (mI r) args s 0 0 (fun _ => False)) (F0 m 2 ls []) := by
    clear hM hS
    intro n
    induction n with
    | zero => exact fun _ _ _ _ _ h => absurd h (by simp [sX2_placeFor_L2])
    | succ n ih =>
      intro G x3 H locs ls h hM hS hl
      rw [sX2_placeFor_L2] at h
      refine lv_iload_n hx hb dX2_placeFor_2 rfl (lv_at hl 3 rfl) ?_
      refine lv_bipush (v := 6) hx hb dX2_placeFor_3 (by decide) ?_
      refine lv_icmp_ge (tgt := 82) hx hb dX2_placeFor_5 (by decide) (fun c5 => ?_) (fun c5 => ?_)
      · replace h := ite_t h c5
        refine lv_iconst (v := -1) hx hb dX2_placeFor_82 (by decide) ?_
        exact W.iret (v := (-1 : Int32)) hx hb hr (fun t ht hW => ⟨⟨(-1 : Int32), (), rfl, Option.some.inj h, trivial⟩, hS.F ht⟩) hS.2.2 dX2_placeFor_83
      · replace h := ite_f h c5
        refine lv_aload_n hx hb dX2_placeFor_8 rfl (lv_at hl 0 rfl) ?_
        refine k_getR (C := RX2) (T := TX2) (N := 13) hx hb hts iX2 hown hK hM 1 rfl rfl 6 (by decide) rfl w0 (fun _ h9 => h9) dX2_placeFor_9 ?_
        refine lv_iload_n hx hb dX2_placeFor_12 rfl (lv_at hl 3 rfl) ?_
        obtain ⟨g13, h⟩ := grd_s h
        refine k_iald hx hb hK hM 7 rfl g13 dX2_placeFor_13 ?_
        refine lv_aload_n hx hb dX2_placeFor_14 rfl (lv_at hl 0 rfl) ?_
        refine lv_iload_n hx hb dX2_placeFor_15 rfl (lv_at hl 1 rfl) ?_
        refine lv_aload_n hx hb dX2_placeFor_16 rfl (lv_at hl 0 rfl) ?_
        refine lv_iload_n hx hb dX2_placeFor_17 rfl (lv_at hl 3 rfl) ?_
        refine lv_iload_n hx hb dX2_placeFor_18 rfl (lv_at hl 2 rfl) ?_
        obtain ⟨r19, e19, h⟩ := bind_s h
        refine k_cI (va_runV (As := [.int x3, .int p2]) (rest := [.int p1, .ref (q 1), .int (G 7 x3.toNatClampNeg)]) ⟨hx, hb, hml, hown, hts⟩ (kX2_wearAt l D cI cR q G K x3 p2 r19 e19) (cwV 2 hts gX2_placeFor_X2_wearAt rfl rfl rfl (by decide +kernel) ⟨Nat.le_of_ble_eq_true rfl, Nat.le_of_ble_eq_true rfl⟩) (mPreV hK hM 1 rfl rfl) rfl rfl hl.1 rfl (lv_room (Nat.le_of_ble_eq_true rfl)) dX2_placeFor_19 ⟨Nat.le_of_ble_eq_true rfl, Nat.le_of_ble_eq_true rfl⟩) hS hM (fun H locs hM hS => ?_)
        obtain ⟨r22, e22, h⟩ := bind_s h
        refine k_cI (va_runV (As := [.int p1, .int r19]) (rest := [.int (G 7 x3.toNatClampNeg)]) ⟨hx, hb, hml, hown, hts⟩ (kX2_size l D cI cR q G K p1 r19 r22 e22) (cwV 2 hts gX2_placeFor_X2_size rfl rfl rfl (by decide +kernel) ⟨Nat.le_of_ble_eq_true rfl, Nat.le_of_ble_eq_true rfl⟩) (mPreV hK hM 1 rfl rfl) rfl rfl hl.1 rfl (lv_room (Nat.le_of_ble_eq_true rfl)) dX2_placeFor_22 ⟨Nat.le_of_ble_eq_true rfl, Nat.le_of_ble_eq_true rfl⟩) hS hM (fun H locs hM hS => ?_)
        refine lv_isub hx hb dX2_placeFor_25 ?_
        refine lv_istore (lv' := [(4, .int ((G 7 x3.toNatClampNeg) - r22)), (0, .ref (q 1)), (1, .int p1), (2, .int p2), (3, .int x3)]) hx hb dX2_placeFor_26 hl (by decide) rfl (fun ls hl => ?_)
        refine lv_iload hx hb dX2_placeFor_28 (lv_at hl 0 rfl) ?_
        refine lv_if_le (tgt := 49) hx hb dX2_placeFor_30 (by decide) (fun c30 => ?_) (fun c30 => ?_)
        · replace h := ite_t h c30
          refine lv_iconst (v := 1) hx hb dX2_placeFor_49 (by decide) ?_
          refine lv_goto (tgt := 54) hx hb dX2_placeFor_50 (by decide) ?_
          refine lv_istore (lv' := [(5, .int (1 : Int32)), (4, .int ((G 7 x3.toNatClampNeg) - r22)), (0, .ref (q 1)), (1, .int p1), (2, .int p2), (3, .int x3)]) hx hb dX2_placeFor_54 hl (by decide) rfl (fun ls hl => ?_)
          refine lv_iload hx hb dX2_placeFor_56 (lv_at hl 0 rfl) ?_
          refine lv_if_ne (tgt := 76) hx hb dX2_placeFor_58 (by decide) (fun c58 => ?_) (fun c58 => ?_)
          · replace h := ite_f h c58
            refine lv_iinc (v := (x3 + 1)) (lv' := [(3, .int (x3 + 1)), (5, .int (1 : Int32)), (4, .int ((G 7 x3.toNatClampNeg) - r22)), (0, .ref (q 1)), (1, .int p1), (2, .int p2)]) hx hb dX2_placeFor_76 hl (k := 5) rfl (congrArg (fun z : Int32 => x3 + z) (show Int32.ofInt (1) = 1 by decide)) (by decide) rfl (fun ls hl => ?_)
            refine lv_goto (tgt := 2) hx hb dX2_placeFor_79 (by decide) ?_
            exact ih G (x3 + 1) _ _ _ h hM hS (lv_sub hl [3, 4, 5, 0] rfl)
          · replace h := ite_t h c58
            refine lv_iload hx hb dX2_placeFor_61 (lv_at hl 1 rfl) ?_
            refine lv_iconst (v := 5) hx hb dX2_placeFor_63 (by decide) ?_
            refine lv_icmp_ge (tgt := 74) hx hb dX2_placeFor_64 (by decide) (fun c64 => ?_) (fun c64 => ?_)
            · replace h := ite_t h c64
              refine lv_iload_n hx hb dX2_placeFor_74 rfl (lv_at hl 5 rfl) ?_
              exact W.iret (v := x3) hx hb hr (fun t ht hW => ⟨⟨x3, (), rfl, Option.some.inj h, trivial⟩, hS.F ht⟩) hS.2.2 dX2_placeFor_75
            · replace h := ite_f h c64
              refine lv_bipush (v := 10) hx hb dX2_placeFor_67 (by decide) ?_
              refine lv_iload_n hx hb dX2_placeFor_69 rfl (lv_at hl 5 rfl) ?_
              refine lv_iadd hx hb dX2_placeFor_70 ?_
              refine lv_goto (tgt := 75) hx hb dX2_placeFor_71 (by decide) ?_
              exact W.iret (v := ((10 : Int32) + x3)) hx hb hr (fun t ht hW => ⟨⟨((10 : Int32) + x3), (), rfl, Option.some.inj h, trivial⟩, hS.F ht⟩) hS.2.2 dX2_placeFor_75
        · replace h := ite_f h c30
          refine lv_aload_n hx hb dX2_placeFor_33 rfl (lv_at hl 1 rfl) ?_
          refine lv_iload_n hx hb dX2_placeFor_34 rfl (lv_at hl 4 rfl) ?_
          obtain ⟨r35, e35, h⟩ := bind_s h
          refine k_cI (va_runV (As := [.int x3]) (rest := []) ⟨hx, hb, hml, hown, hts⟩ (kX2_isStuck l D cI cR q G K x3 r35 e35) (cwV 1 hts gX2_placeFor_X2_isStuck rfl rfl rfl (by decide +kernel) ⟨Nat.le_of_ble_eq_true rfl, Nat.le_of_ble_eq_true rfl⟩) (mPreV hK hM 1 rfl rfl) rfl rfl hl.1 rfl (lv_room (Nat.le_of_ble_eq_true rfl)) dX2_placeFor_35 ⟨Nat.le_of_ble_eq_true rfl, Nat.le_of_ble_eq_true rfl⟩) hS hM (fun H locs hM hS => ?_)
          refine lv_if_ne (tgt := 49) hx hb dX2_placeFor_38 (by decide) (fun c38 => ?_) (fun c38 => ?_)
          · replace h := ite_f h c38
            refine lv_iconst (v := 1) hx hb dX2_placeFor_49 (by decide) ?_
            refine lv_goto (tgt := 54) hx hb dX2_placeFor_50 (by decide) ?_
            refine lv_istore (lv' := [(5, .int (1 : Int32)), (4, .int ((G 7 x3.toNatClampNeg) - r22)), (0, .ref (q 1)), (1, .int p1), (2, .int p2), (3, .int x3)]) hx hb dX2_placeFor_54 hl (by decide) rfl (fun ls hl => ?_)
            refine lv_iload hx hb dX2_placeFor_56 (lv_at hl 0 rfl) ?_
            refine lv_if_ne (tgt := 76) hx hb dX2_placeFor_58 (by decide) (fun c58 => ?_) (fun c58 => ?_)
            · replace h := ite_f h c58
              refine lv_iinc (v := (x3 + 1)) (lv' := [(3, .int (x3 + 1)), (5, .int (1 : Int32)), (4, .int ((G 7 x3.toNatClampNeg) - r22)), (0, .ref (q 1)), (1, .int p1), (2, .int p2)]) hx hb dX2_placeFor_76 hl (k := 5) rfl (congrArg (fun z : Int32 => x3 + z) (show Int32.ofInt (1) = 1 by decide)) (by decide) rfl (fun ls hl => ?_)
              refine lv_goto (tgt := 2) hx hb dX2_placeFor_79 (by decide) ?_
              exact ih G (x3 + 1) _ _ _ h hM hS (lv_sub hl [3, 4, 5, 0] rfl)
            · replace h := ite_t h c58
              refine lv_iload hx hb dX2_placeFor_61 (lv_at hl 1 rfl) ?_
              refine lv_iconst (v := 5) hx hb dX2_placeFor_63 (by decide) ?_
              refine lv_icmp_ge (tgt := 74) hx hb dX2_placeFor_64 (by decide) (fun c64 => ?_) (fun c64 => ?_)
              · replace h := ite_t h c64
                refine lv_iload_n hx hb dX2_placeFor_74 rfl (lv_at hl 5 rfl) ?_
                exact W.iret (v := x3) hx hb hr (fun t ht hW => ⟨⟨x3, (), rfl, Option.some.inj h, trivial⟩, hS.F ht⟩) hS.2.2 dX2_placeFor_75
              · replace h := ite_f h c64
                refine lv_bipush (v := 10) hx hb dX2_placeFor_67 (by decide) ?_
                refine lv_iload_n hx hb dX2_placeFor_69 rfl (lv_at hl 5 rfl) ?_
                refine lv_iadd hx hb dX2_placeFor_70 ?_
                refine lv_goto (tgt := 75) hx hb dX2_placeFor_71 (by decide) ?_
                exact W.iret (v := ((10 : Int32) + x3)) hx hb hr (fun t ht hW => ⟨⟨((10 : Int32) + x3), (), rfl, Option.some.inj h, trivial⟩, hS.F ht⟩) hS.2.2 dX2_placeFor_75
          · replace h := ite_t h c38
            refine lv_aload_n hx hb dX2_placeFor_41 rfl (lv_at hl 1 rfl) ?_
            refine lv_iload_n hx hb dX2_placeFor_42 rfl (lv_at hl 4 rfl) ?_
            obtain ⟨r43, e43, h⟩ := bind_s h
            refine k_cI (va_runV (As := [.int x3]) (rest := []) ⟨hx, hb, hml, hown, hts⟩ (kX2_isFull l D cI cR q G K x3 r43 e43) (cwV 1 hts gX2_placeFor_X2_isFull rfl rfl rfl (by decide +kernel) ⟨Nat.le_of_ble_eq_true rfl, Nat.le_of_ble_eq_true rfl⟩) (mPreV hK hM 1 rfl rfl) rfl rfl hl.1 rfl (lv_room (Nat.le_of_ble_eq_true rfl)) dX2_placeFor_43 ⟨Nat.le_of_ble_eq_true rfl, Nat.le_of_ble_eq_true rfl⟩) hS hM (fun H locs hM hS => ?_)
            refine lv_if_eq (tgt := 53) hx hb dX2_placeFor_46 (by decide) (fun c46 => ?_) (fun c46 => ?_)
            · replace h := ite_t h c46
              refine lv_iconst (v := 0) hx hb dX2_placeFor_53 (by decide) ?_
              refine lv_istore (lv' := [(5, .int (0 : Int32)), (4, .int ((G 7 x3.toNatClampNeg) - r22)), (0, .ref (q 1)), (1, .int p1), (2, .int p2), (3, .int x3)]) hx hb dX2_placeFor_54 hl (by decide) rfl (fun ls hl => ?_)
              refine lv_iload hx hb dX2_placeFor_56 (lv_at hl 0 rfl) ?_
              refine lv_if_ne (tgt := 76) hx hb dX2_placeFor_58 (by decide) (fun c58 => ?_) (fun c58 => ?_)
              · replace h := ite_f h c58
                refine lv_iinc (v := (x3 + 1)) (lv' := [(3, .int (x3 + 1)), (5, .int (0 : Int32)), (4, .int ((G 7 x3.toNatClampNeg) - r22)), (0, .ref (q 1)), (1, .int p1), (2, .int p2)]) hx hb dX2_placeFor_76 hl (k := 5) rfl (congrArg (fun z : Int32 => x3 + z) (show Int32.ofInt (1) = 1 by decide)) (by decide) rfl (fun ls hl => ?_)
                refine lv_goto (tgt := 2) hx hb dX2_placeFor_79 (by decide) ?_
                exact ih G (x3 + 1) _ _ _ h hM hS (lv_sub hl [3, 4, 5, 0] rfl)
              · replace h := ite_t h c58
                refine lv_iload hx hb dX2_placeFor_61 (lv_at hl 1 rfl) ?_
                refine lv_iconst (v := 5) hx hb dX2_placeFor_63 (by decide) ?_
                refine lv_icmp_ge (tgt := 74) hx hb dX2_placeFor_64 (by decide) (fun c64 => ?_) (fun c64 => ?_)
                · replace h := ite_t h c64
                  refine lv_iload_n hx hb dX2_placeFor_74 rfl (lv_at hl 5 rfl) ?_
                  exact W.iret (v := x3) hx hb hr (fun t ht hW => ⟨⟨x3, (), rfl, Option.some.inj h, trivial⟩, hS.F ht⟩) hS.2.2 dX2_placeFor_75
                · replace h := ite_f h c64
                  refine lv_bipush (v := 10) hx hb dX2_placeFor_67 (by decide) ?_
                  refine lv_iload_n hx hb dX2_placeFor_69 rfl (lv_at hl 5 rfl) ?_
                  refine lv_iadd hx hb dX2_placeFor_70 ?_
                  refine lv_goto (tgt := 75) hx hb dX2_placeFor_71 (by decide) ?_
                  exact W.iret (v := ((10 : Int32) + x3)) hx hb hr (fun t ht hW => ⟨⟨((10 : Int32) + x3), (), rfl, Option.some.inj h, trivial⟩, hS.F ht⟩) hS.2.2 dX2_placeFor_75
            · replace h := ite_f h c46
              refine lv_iconst (v := 1) hx hb dX2_placeFor_49 (by decide) ?_
              refine lv_goto (tgt := 54) hx hb dX2_placeFor_50 (by decide) ?_
              refine lv_istore (lv' := [(5, .int (1 : Int32)), (4, .int ((G 7 x3.toNatClampNeg) - r22)), (0, .ref (q 1)), (1, .int p1), (2, .int p2), (3, .int x3)]) hx hb dX2_placeFor_54 hl (by decide) rfl (fun ls hl => ?_)
              refine lv_iload hx hb dX2_placeFor_56 (lv_at hl 0 rfl) ?_
              refine lv_if_ne (tgt := 76) hx hb dX2_placeFor_58 (by decide) (fun c58 => ?_) (fun c58 => ?_)
              · replace h := ite_f h c58
                refine lv_iinc (v := (x3 + 1)) (lv' := [(3, .int (x3 + 1)), (5, .int (1 : Int32)), (4, .int ((G 7 x3.toNatClampNeg) - r22)), (0, .ref (q 1)), (1, .int p1), (2, .int p2)]) hx hb dX2_placeFor_76 hl (k := 5) rfl (congrArg (fun z : Int32 => x3 + z) (show Int32.ofInt (1) = 1 by decide)) (by decide) rfl (fun ls hl => ?_)
                refine lv_goto (tgt := 2) hx hb dX2_placeFor_79 (by decide) ?_
                exact ih G (x3 + 1) _ _ _ h hM hS (lv_sub hl [3, 4, 5, 0] rfl)
              · replace h := ite_t h c58
                refine lv_iload hx hb dX2_placeFor_61 (lv_at hl 1 rfl) ?_
                refine lv_iconst (v := 5) hx hb dX2_placeFor_63 (by decide) ?_
                refine lv_icmp_ge (tgt := 74) hx hb dX2_placeFor_64 (by decide) (fun c64 => ?_) (fun c64 => ?_)
                · replace h := ite_t h c64
                  refine lv_iload_n hx hb dX2_placeFor_74 rfl (lv_at hl 5 rfl) ?_
                  exact W.iret (v := x3) hx hb hr (fun t ht hW => ⟨⟨x3, (), rfl, Option.some.inj h, trivial⟩, hS.F ht⟩) hS.2.2 dX2_placeFor_75
                · replace h := ite_f h c64
                  refine lv_bipush (v := 10) hx hb dX2_placeFor_67 (by decide) ?_
                  refine lv_iload_n hx hb dX2_placeFor_69 rfl (lv_at hl 5 rfl) ?_
                  refine lv_iadd hx hb dX2_placeFor_70 ?_
                  refine lv_goto (tgt := 75) hx hb dX2_placeFor_71 (by decide) ?_
                  exact W.iret (v := ((10 : Int32) + x3)) hx hb hr (fun t ht hW => ⟨⟨((10 : Int32) + x3), (), rfl, Option.some.inj h, trivial⟩, hS.F ht⟩) hS.2.2 dX2_placeFor_75
  subst hargs
  have hl := lv_entry ([.ref (q 1), .int p1, .int p2]) (n := 6) (Nat.le_of_ble_eq_true rfl)
  rw [lg_entry_eq]
  generalize (lg_sl ([.ref (q 1), .int p1, .int p2]) ++ List.replicate (6 - (lg_sl ([.ref (q 1), .int p1, .int p2])).length) Slot.unset).toArray = ls at hl ⊢
  have hl : lv_has ls 6 [(0, .ref (q 1)), (1, .int p1), (2, .int p2)] := hl
  have h := hs
  unfold sX2_placeFor at h
  have hM0 := hM
  refine lv_iconst (v := 0) hx hb dX2_placeFor_0 (by decide) ?_
  refine lv_istore_n (lv' := [(3, .int (0 : Int32)), (0, .ref (q 1)), (1, .int p1), (2, .int p2)]) hx hb dX2_placeFor_1 rfl hl (by decide) rfl (fun ls hl => ?_)
  exact L2 K G (0 : Int32) _ _ _ h hM hS (lv_sub hl [1, 2, 3, 0] rfl)
set_option maxHeartbeats 4000000 in
set_option maxRecDepth 100000 in
theorem kX2_rollOver (l : Launch) (D : va_G) (cI cR : ClassId) (q : Nat → Nat) (G : Nat → Nat → Int32) (K : Nat) (p1 : Int32) (hJ : MJ tmC q) (r : (Nat → Nat → Int32)) (hs : sX2_rollOver K G p1 = some r) : Met l yX2_rollOver wsX2_rollOver ({ frames := 0, cells := 0, slots := 0, locals := 0 } : Room) (mPre [.ref (q 1), .int p1] D cI cR q tmC G) (mVW D cI cR q tmC r) 0 0 (MA tmC q) := by
  refine Met.ofW (cc := cX2_rollOver) (maxL := 3) (ret := none) (by decide) rfl ?_
  intro p e s m args below meth c s₁ B hml hv
  obtain ⟨hargs, hM, hK⟩ := hv
  have hx := B.exec
  have hb := B.bytes
  have hr := B.returns
  have hts := atoms_spec (ws := wsX2_rollOver) B.pre
  have hown : s.vm.findClass RX2 = some m.cls := findClass_of_methodNamed B.named
  have hlocks := B.notSynchronized
  have hA : ∀ a, MA tmC q a → MA tmC q a := fun _ h => h
  have hS : va_S (MA tmC q) s.heap s.heap [] := va_S.rf
  have w0 := hts (Cond.fieldLink RX2 39 "CoinRails$State" "rolled" "[I") (List.mem_of_getElem? (i := 1) (by decide +kernel))
  have iX2 : ∀ w ∈ wsX20, w ∈ wsX2_rollOver := fun _ h => List.mem_cons_of_mem _ (List.mem_append_right _ (h))
  have L2 : ∀ (n : Nat), ∀ (G1 : Nat → Nat → Int32) (x2 : Int32) (H : Heap) (locs : List Loc) (ls : Array Slot), sX2_rollOver_L2 K p1 n G1 x2 = some r → MW D cI cR q tmC G1 H → va_S (MA tmC q) s.heap H locs → lv_has ls 3 [(0, .ref (q 1)), (1, .int p1), (2, .int x2)] → W p l e (headSpec wsX2_rollOver ({ frames := 0, cells := 0, slots := 0, locals := 0 } : Room)).room s m args below meth c H locs 0 0 (MQ below (mVW D cI cR q tmC r) args s 0 0 (MA tmC q)) (F0 m 2 ls []) := by
    clear hM hS
    intro n
    induction n with
    | zero => exact fun _ _ _ _ _ h => absurd h (by simp [sX2_rollOver_L2])
    | succ n ih =>
      intro G1 x2 H locs ls h hM hS hl
      rw [sX2_rollOver_L2] at h
      refine lv_iload_n hx hb dX2_rollOver_2 rfl (lv_at hl 2 rfl) ?_
      refine lv_iload_n hx hb dX2_rollOver_3 rfl (lv_at hl 1 rfl) ?_
      refine lv_icmp_ge (tgt := 23) hx hb dX2_rollOver_4 (by decide) (fun c4 => ?_) (fun c4 => ?_)
      · replace h := ite_t h c4
        have h := Option.some.inj h
        exact W.vret hx hb hr (fun t ht hW => ⟨⟨(), rfl, trivial, w_end ht hM h⟩, hS.F ht⟩) hS.2.2 dX2_rollOver_23
      · replace h := ite_f h c4
        refine lv_aload_n hx hb dX2_rollOver_7 rfl (lv_at hl 0 rfl) ?_
        refine k_getR (C := RX2) (T := TX2) (N := 13) hx hb hts iX2 hown hK hM 1 rfl rfl 10 (by decide) rfl w0 (fun _ h9 => h9) dX2_rollOver_8 ?_
        refine lv_iload_n hx hb dX2_rollOver_11 rfl (lv_at hl 2 rfl) ?_
        refine lv_dup2_11 hx hb dX2_rollOver_12 rfl rfl ?_
        obtain ⟨g13, h⟩ := grd_s h
        refine k_iald hx hb hK hM 11 rfl g13 dX2_rollOver_13 ?_
        refine lv_iconst (v := 1) hx hb dX2_rollOver_14 (by decide) ?_
        refine lv_iadd hx hb dX2_rollOver_15 ?_
        obtain ⟨g16, h⟩ := grd_s h
        refine k_iast (v := ((G1 11 x2.toNatClampNeg) + (1 : Int32))) hx hb hK hM hJ hA hS 11 rfl g16 dX2_rollOver_16 (fun H locs hM hS => ?_)
        obtain ⟨G18, eG18, h⟩ := olet_s h
        rw [eG18] at hM
        refine lv_iinc (v := (x2 + 1)) (lv' := [(2, .int (x2 + 1)), (0, .ref (q 1)), (1, .int p1)]) hx hb dX2_rollOver_17 hl (k := 2) rfl (congrArg (fun z : Int32 => x2 + z) (show Int32.ofInt (1) = 1 by decide)) (by decide) rfl (fun ls hl => ?_)
        refine lv_goto (tgt := 2) hx hb dX2_rollOver_20 (by decide) ?_
        exact ih G18 (x2 + 1) _ _ _ h hM hS (lv_sub hl [1, 2, 0] rfl)
  subst hargs
  have hl := lv_entry ([.ref (q 1), .int p1]) (n := 3) (Nat.le_of_ble_eq_true rfl)
  rw [lg_entry_eq]
  generalize (lg_sl ([.ref (q 1), .int p1]) ++ List.replicate (3 - (lg_sl ([.ref (q 1), .int p1])).length) Slot.unset).toArray = ls at hl ⊢
  have hl : lv_has ls 3 [(0, .ref (q 1)), (1, .int p1)] := hl
  have h := hs
  unfold sX2_rollOver at h
  have hM0 := hM
  refine lv_iconst (v := 0) hx hb dX2_rollOver_0 (by decide) ?_
  refine lv_istore_n (lv' := [(2, .int (0 : Int32)), (0, .ref (q 1)), (1, .int p1)]) hx hb dX2_rollOver_1 rfl hl (by decide) rfl (fun ls hl => ?_)
  exact L2 K G (0 : Int32) _ _ _ h hM hS (lv_sub hl [1, 2, 0] rfl)
set_option maxHeartbeats 4000000 in
set_option maxRecDepth 100000 in
theorem kX2_useRail (l : Launch) (D : va_G) (cI cR : ClassId) (q : Nat → Nat) (G : Nat → Nat → Int32) (K : Nat) (p1 : Int32) (hJ : MJ tmC q) (r : (Nat → Nat → Int32)) (hs : sX2_useRail K G p1 = some r) : Met l yX2_useRail wsX2_useRail ({ frames := 1, cells := 0, slots := 0, locals := 21 } : Room) (mPre [.ref (q 1), .int p1] D cI cR q tmC G) (mVW D cI cR q tmC r) 0 0 (MA tmC q) := by
  refine Met.ofW (cc := cX2_useRail) (maxL := 2) (ret := none) (by decide) rfl ?_
  intro p e s m args below meth c s₁ B hml hv
  obtain ⟨hargs, hM, hK⟩ := hv
  have hx := B.exec
  have hb := B.bytes
  have hr := B.returns
  have hts := atoms_spec (ws := wsX2_useRail) B.pre
  have hown : s.vm.findClass RX2 = some m.cls := findClass_of_methodNamed B.named
  have hlocks := B.notSynchronized
  have hA : ∀ a, MA tmC q a → MA tmC q a := fun _ h => h
  have hS : va_S (MA tmC q) s.heap s.heap [] := va_S.rf
  have w0 := hts (Cond.fieldLink RX2 30 "CoinRails$State" "use" "[I") (List.mem_of_getElem? (i := 1) (by decide +kernel))
  have iX2 : ∀ w ∈ wsX20, w ∈ wsX2_useRail := fun _ h => List.mem_cons_of_mem _ (List.mem_append_right _ (h))
  have w2 := hts (Cond.fieldLink RX2 27 "CoinRails$State" "gap" "[I") (List.mem_of_getElem? (i := 2) (by decide +kernel))
  have w3 := hts (Cond.methodLink RX2 81 Lib.Math.min.name) (List.mem_of_getElem? (i := 3) (by decide +kernel))
  have w4 := hts (Cond.static Lib.Math.min.name) (List.mem_of_getElem? (i := 4) (by decide +kernel))
  have w5 := hts (Cond.initialized "java/lang/Math") (List.mem_of_getElem? (i := 5) (by decide +kernel))
  have w6 := hts (Cond.code Lib.Math.min.name Lib.Math.min.code 2 (some .int)) (List.mem_of_getElem? (i := 6) (by decide +kernel))
  subst hargs
  have hl := lv_entry ([.ref (q 1), .int p1]) (n := 2) (Nat.le_of_ble_eq_true rfl)
  rw [lg_entry_eq]
  generalize (lg_sl ([.ref (q 1), .int p1]) ++ List.replicate (2 - (lg_sl ([.ref (q 1), .int p1])).length) Slot.unset).toArray = ls at hl ⊢
  have hl : lv_has ls 2 [(0, .ref (q 1)), (1, .int p1)] := hl
  have h := hs
  unfold sX2_useRail at h
  have hM0 := hM
  refine lv_aload_n hx hb dX2_useRail_0 rfl (lv_at hl 0 rfl) ?_
  refine k_getR (C := RX2) (T := TX2) (N := 13) hx hb hts iX2 hown hK hM 1 rfl rfl 7 (by decide) rfl w0 (fun _ h9 => h9) dX2_useRail_1 ?_
  refine lv_iload_n hx hb dX2_useRail_4 rfl (lv_at hl 1 rfl) ?_
  refine lv_dup2_11 hx hb dX2_useRail_5 rfl rfl ?_
  obtain ⟨g6, h⟩ := grd_s h
  refine k_iald hx hb hK hM 8 rfl g6 dX2_useRail_6 ?_
  refine lv_iconst (v := 1) hx hb dX2_useRail_7 (by decide) ?_
  refine lv_iadd hx hb dX2_useRail_8 ?_
  obtain ⟨g9, h⟩ := grd_s h
  refine k_iast (v := ((G 8 p1.toNatClampNeg) + (1 : Int32))) hx hb hK hM hJ hA hS 8 rfl g9 dX2_useRail_9 (fun H locs hM hS => ?_)
  obtain ⟨G11, eG11, h⟩ := olet_s h
  rw [eG11] at hM
  refine lv_aload_n hx hb dX2_useRail_10 rfl (lv_at hl 0 rfl) ?_
  refine k_getR (C := RX2) (T := TX2) (N := 13) hx hb hts iX2 hown hK hM 1 rfl rfl 7 (by decide) rfl w0 (fun _ h9 => h9) dX2_useRail_11 ?_
  refine lv_iload_n hx hb dX2_useRail_14 rfl (lv_at hl 1 rfl) ?_
  obtain ⟨g15, h⟩ := grd_s h
  refine k_iald hx hb hK hM 8 rfl g15 dX2_useRail_15 ?_
  refine lv_bipush (v := 20) hx hb dX2_useRail_16 (by decide) ?_
  refine lv_icmp_lt (tgt := 48) hx hb dX2_useRail_18 (by decide) (fun c18 => ?_) (fun c18 => ?_)
  · replace h := ite_t h c18
    have h := Option.some.inj h
    exact W.vret hx hb hr (fun t ht hW => ⟨⟨(), rfl, trivial, w_end ht hM h⟩, hS.F ht⟩) hS.2.2 dX2_useRail_48
  · replace h := ite_f h c18
    refine lv_aload_n hx hb dX2_useRail_21 rfl (lv_at hl 0 rfl) ?_
    refine k_getR (C := RX2) (T := TX2) (N := 13) hx hb hts iX2 hown hK hM 1 rfl rfl 7 (by decide) rfl w0 (fun _ h9 => h9) dX2_useRail_22 ?_
    refine lv_iload_n hx hb dX2_useRail_25 rfl (lv_at hl 1 rfl) ?_
    refine lv_iconst (v := 0) hx hb dX2_useRail_26 (by decide) ?_
    obtain ⟨g27, h⟩ := grd_s h
    refine k_iast (v := (0 : Int32)) hx hb hK hM hJ hA hS 8 rfl g27 dX2_useRail_27 (fun H locs hM hS => ?_)
    obtain ⟨G29, eG29, h⟩ := olet_s h
    rw [eG29] at hM
    refine lv_aload_n hx hb dX2_useRail_28 rfl (lv_at hl 0 rfl) ?_
    refine k_getR (C := RX2) (T := TX2) (N := 13) hx hb hts iX2 hown hK hM 1 rfl rfl 6 (by decide) rfl w2 (fun _ h9 => h9) dX2_useRail_29 ?_
    refine lv_iload_n hx hb dX2_useRail_32 rfl (lv_at hl 1 rfl) ?_
    refine lv_sipush (v := 4100) hx hb dX2_useRail_33 (by decide) ?_
    refine lv_aload_n hx hb dX2_useRail_36 rfl (lv_at hl 0 rfl) ?_
    refine k_getR (C := RX2) (T := TX2) (N := 13) hx hb hts iX2 hown hK hM 1 rfl rfl 6 (by decide) rfl w2 (fun _ h9 => h9) dX2_useRail_37 ?_
    refine lv_iload_n hx hb dX2_useRail_40 rfl (lv_at hl 1 rfl) ?_
    obtain ⟨g41, h⟩ := grd_s h
    refine k_iald hx hb hK hM 7 rfl g41 dX2_useRail_41 ?_
    refine lv_iconst (v := 1) hx hb dX2_useRail_42 (by decide) ?_
    refine lv_iadd hx hb dX2_useRail_43 ?_
    refine va_mmin hx hb (hml.trans hl.1.symm) hown w3 w4 w5 w6 (Nat.le_of_ble_eq_true rfl) (Nat.le_of_ble_eq_true rfl) (Nat.le_of_ble_eq_true rfl) (Nat.le_of_ble_eq_true rfl) dX2_useRail_44 ?_
    obtain ⟨g47, h⟩ := grd_s h
    refine k_iast (v := (if ((G29 7 p1.toNatClampNeg) + (1 : Int32)) < (4100 : Int32) then ((G29 7 p1.toNatClampNeg) + (1 : Int32)) else (4100 : Int32))) hx hb hK hM hJ hA hS 7 rfl g47 dX2_useRail_47 (fun H locs hM hS => ?_)
    obtain ⟨G49, eG49, h⟩ := olet_s h
    rw [eG49] at hM
    have h := Option.some.inj h
    exact W.vret hx hb hr (fun t ht hW => ⟨⟨(), rfl, trivial, w_end ht hM h⟩, hS.F ht⟩) hS.2.2 dX2_useRail_48
set_option maxHeartbeats 4000000 in
set_option maxRecDepth 100000 in
theorem kX2_putCoin (l : Launch) (D : va_G) (cI cR : ClassId) (q : Nat → Nat) (G : Nat → Nat → Int32) (K : Nat) (p1 : Int32) (p2 : Int32) (hJ : MJ tmC q) (r : (Int32 × (Nat → Nat → Int32))) (hs : sX2_putCoin K G p1 p2 = some r) : Met l yX2_putCoin wsX2_putCoin ({ frames := 3, cells := 0, slots := 0, locals := 69 } : Room) (mPre [.ref (q 1), .int p1, .int p2] D cI cR q tmC G) (mIW D cI cR q tmC r) 0 0 (MA tmC q) := by
  refine Met.ofW (cc := cX2_putCoin) (maxL := 5) (ret := (some .int)) (by decide) rfl ?_
  intro p e s m args below meth c s₁ B hml hv
  obtain ⟨hargs, hM, hK⟩ := hv
  have hx := B.exec
  have hb := B.bytes
  have hr := B.returns
  have hts := atoms_spec (ws := wsX2_putCoin) B.pre
  have hown : s.vm.findClass RX2 = some m.cls := findClass_of_methodNamed B.named
  have hlocks := B.notSynchronized
  have hA : ∀ a, MA tmC q a → MA tmC q a := fun _ h => h
  have hS : va_S (MA tmC q) s.heap s.heap [] := va_S.rf
  have w0 := hts (Cond.fieldLink RX2 21 "CoinRails$State" "fed" "[I") (List.mem_of_getElem? (i := 1) (by decide +kernel))
  have iX2 : ∀ w ∈ wsX20, w ∈ wsX2_putCoin := fun _ h => List.mem_cons_of_mem _ (List.mem_append_right _ (h))
  have w2 := hts (Cond.fieldLink RX2 42 "CoinRails$State" "bags" "[I") (List.mem_of_getElem? (i := 5) (by decide +kernel))
  have w3 := hts (Cond.fieldLink RX2 33 "CoinRails$State" "stuckKind" "[I") (List.mem_of_getElem? (i := 3) (by decide +kernel))
  have w4 := hts (Cond.fieldLink RX2 36 "CoinRails$State" "stuckWear" "[I") (List.mem_of_getElem? (i := 4) (by decide +kernel))
  have w5 := hts (Cond.fieldLink RX2 24 "CoinRails$State" "rejects" "[I") (List.mem_of_getElem? (i := 2) (by decide +kernel))
  subst hargs
  have hl := lv_entry ([.ref (q 1), .int p1, .int p2]) (n := 5) (Nat.le_of_ble_eq_true rfl)
  rw [lg_entry_eq]
  generalize (lg_sl ([.ref (q 1), .int p1, .int p2]) ++ List.replicate (5 - (lg_sl ([.ref (q 1), .int p1, .int p2])).length) Slot.unset).toArray = ls at hl ⊢
  have hl : lv_has ls 5 [(0, .ref (q 1)), (1, .int p1), (2, .int p2)] := hl
  have h := hs
  unfold sX2_putCoin at h
  have hM0 := hM
  refine lv_aload_n hx hb dX2_putCoin_0 rfl (lv_at hl 0 rfl) ?_
  refine lv_iload_n hx hb dX2_putCoin_1 rfl (lv_at hl 1 rfl) ?_
  refine lv_iload_n hx hb dX2_putCoin_2 rfl (lv_at hl 2 rfl) ?_
  obtain ⟨r3, e3, h⟩ := bind_s h
  refine k_cI (va_runV (As := [.int p1, .int p2]) (rest := []) ⟨hx, hb, hml, hown, hts⟩ (kX2_placeFor l D cI cR q G K p1 p2 r3 e3) (cwV 2 hts gX2_putCoin_X2_placeFor rfl rfl rfl (by decide +kernel) ⟨Nat.le_of_ble_eq_true rfl, Nat.le_of_ble_eq_true rfl⟩) (mPreV hK hM 1 rfl rfl) rfl rfl hl.1 rfl (lv_room (Nat.le_of_ble_eq_true rfl)) dX2_putCoin_3 ⟨Nat.le_of_ble_eq_true rfl, Nat.le_of_ble_eq_true rfl⟩) hS hM (fun H locs hM hS => ?_)
  refine lv_istore_n (lv' := [(3, .int r3), (0, .ref (q 1)), (1, .int p1), (2, .int p2)]) hx hb dX2_putCoin_6 rfl hl (by decide) rfl (fun ls hl => ?_)
  refine lv_aload_n hx hb dX2_putCoin_7 rfl (lv_at hl 1 rfl) ?_
  refine k_getR (C := RX2) (T := TX2) (N := 13) hx hb hts iX2 hown hK hM 1 rfl rfl 4 (by decide) rfl w0 (fun _ h9 => h9) dX2_putCoin_8 ?_
  refine lv_iload_n hx hb dX2_putCoin_11 rfl (lv_at hl 2 rfl) ?_
  refine lv_dup2_11 hx hb dX2_putCoin_12 rfl rfl ?_
  obtain ⟨g13, h⟩ := grd_s h
  refine k_iald hx hb hK hM 5 rfl g13 dX2_putCoin_13 ?_
  refine lv_iconst (v := 1) hx hb dX2_putCoin_14 (by decide) ?_
  refine lv_iadd hx hb dX2_putCoin_15 ?_
  obtain ⟨g16, h⟩ := grd_s h
  refine k_iast (v := ((G 5 p1.toNatClampNeg) + (1 : Int32))) hx hb hK hM hJ hA hS 5 rfl g16 dX2_putCoin_16 (fun H locs hM hS => ?_)
  obtain ⟨G18, eG18, h⟩ := olet_s h
  rw [eG18] at hM
  refine lv_iload_n hx hb dX2_putCoin_17 rfl (lv_at hl 0 rfl) ?_
  refine lv_iconst (v := -1) hx hb dX2_putCoin_18 (by decide) ?_
  refine lv_icmp_ne (tgt := 41) hx hb dX2_putCoin_19 (by decide) (fun c19 => ?_) (fun c19 => ?_)
  · replace h := ite_f h c19
    refine lv_iload_n hx hb dX2_putCoin_41 rfl (lv_at hl 0 rfl) ?_
    refine lv_bipush (v := 10) hx hb dX2_putCoin_42 (by decide) ?_
    refine lv_icmp_lt (tgt := 84) hx hb dX2_putCoin_44 (by decide) (fun c44 => ?_) (fun c44 => ?_)
    · replace h := ite_t h c44
      refine lv_aload_n hx hb dX2_putCoin_84 rfl (lv_at hl 1 rfl) ?_
      refine lv_iload_n hx hb dX2_putCoin_85 rfl (lv_at hl 0 rfl) ?_
      obtain ⟨r86, e86, h⟩ := bind_s h
      refine k_cVW (va_runV (As := [.int r3]) (rest := []) ⟨hx, hb, hml, hown, hts⟩ (kX2_rollOver l D cI cR q G18 K r3 hJ r86 e86) (cwV 1 hts gX2_putCoin_X2_rollOver rfl rfl rfl (by decide +kernel) ⟨Nat.le_of_ble_eq_true rfl, Nat.le_of_ble_eq_true rfl⟩) (mPreV hK hM 1 rfl rfl) rfl rfl hl.1 rfl (lv_room (Nat.le_of_ble_eq_true rfl)) dX2_putCoin_86 ⟨Nat.le_of_ble_eq_true rfl, Nat.le_of_ble_eq_true rfl⟩) hS hA (fun H locs hM hS => ?_)
      refine lv_aload_n hx hb dX2_putCoin_89 rfl (lv_at hl 1 rfl) ?_
      refine k_getR (C := RX2) (T := TX2) (N := 13) hx hb hts iX2 hown hK hM 1 rfl rfl 11 (by decide) rfl w2 (fun _ h9 => h9) dX2_putCoin_90 ?_
      refine lv_iload_n hx hb dX2_putCoin_93 rfl (lv_at hl 0 rfl) ?_
      refine lv_bipush (v := 6) hx hb dX2_putCoin_94 (by decide) ?_
      refine lv_imul hx hb dX2_putCoin_96 ?_
      refine lv_iload_n hx hb dX2_putCoin_97 rfl (lv_at hl 2 rfl) ?_
      refine lv_iadd hx hb dX2_putCoin_98 ?_
      refine lv_dup2_11 hx hb dX2_putCoin_99 rfl rfl ?_
      obtain ⟨g100, h⟩ := grd_s h
      refine k_iald hx hb hK hM 12 rfl g100 dX2_putCoin_100 ?_
      refine lv_iconst (v := 1) hx hb dX2_putCoin_101 (by decide) ?_
      refine lv_iadd hx hb dX2_putCoin_102 ?_
      obtain ⟨g103, h⟩ := grd_s h
      refine k_iast (v := ((r86 12 ((r3 * (6 : Int32)) + p1).toNatClampNeg) + (1 : Int32))) hx hb hK hM hJ hA hS 12 rfl g103 dX2_putCoin_103 (fun H locs hM hS => ?_)
      obtain ⟨G105, eG105, h⟩ := olet_s h
      rw [eG105] at hM
      refine lv_aload_n hx hb dX2_putCoin_104 rfl (lv_at hl 1 rfl) ?_
      refine lv_iload_n hx hb dX2_putCoin_105 rfl (lv_at hl 0 rfl) ?_
      obtain ⟨r106, e106, h⟩ := bind_s h
      refine k_cVW (va_runV (As := [.int r3]) (rest := []) ⟨hx, hb, hml, hown, hts⟩ (kX2_useRail l D cI cR q G105 K r3 hJ r106 e106) (cwV 1 hts gX2_putCoin_X2_useRail rfl rfl rfl (by decide +kernel) ⟨Nat.le_of_ble_eq_true rfl, Nat.le_of_ble_eq_true rfl⟩) (mPreV hK hM 1 rfl rfl) rfl rfl hl.1 rfl (lv_room (Nat.le_of_ble_eq_true rfl)) dX2_putCoin_106 ⟨Nat.le_of_ble_eq_true rfl, Nat.le_of_ble_eq_true rfl⟩) hS hA (fun H locs hM hS => ?_)
      refine lv_iload_n hx hb dX2_putCoin_109 rfl (lv_at hl 0 rfl) ?_
      have h := Option.some.inj h
      exact W.iret (v := r3) hx hb hr (fun t ht hW => ⟨⟨r3, (), rfl, p_fst h, w_end ht hM (p_snd h)⟩, hS.F ht⟩) hS.2.2 dX2_putCoin_110
    · replace h := ite_f h c44
      refine lv_iload_n hx hb dX2_putCoin_47 rfl (lv_at hl 0 rfl) ?_
      refine lv_bipush (v := 10) hx hb dX2_putCoin_48 (by decide) ?_
      refine lv_isub hx hb dX2_putCoin_50 ?_
      refine lv_istore (lv' := [(4, .int (r3 - (10 : Int32))), (3, .int r3), (0, .ref (q 1)), (1, .int p1), (2, .int p2)]) hx hb dX2_putCoin_51 hl (by decide) rfl (fun ls hl => ?_)
      refine lv_aload_n hx hb dX2_putCoin_53 rfl (lv_at hl 2 rfl) ?_
      refine lv_iload hx hb dX2_putCoin_54 (lv_at hl 0 rfl) ?_
      obtain ⟨r56, e56, h⟩ := bind_s h
      refine k_cVW (va_runV (As := [.int (r3 - (10 : Int32))]) (rest := []) ⟨hx, hb, hml, hown, hts⟩ (kX2_rollOver l D cI cR q G18 K (r3 - (10 : Int32)) hJ r56 e56) (cwV 1 hts gX2_putCoin_X2_rollOver rfl rfl rfl (by decide +kernel) ⟨Nat.le_of_ble_eq_true rfl, Nat.le_of_ble_eq_true rfl⟩) (mPreV hK hM 1 rfl rfl) rfl rfl hl.1 rfl (lv_room (Nat.le_of_ble_eq_true rfl)) dX2_putCoin_56 ⟨Nat.le_of_ble_eq_true rfl, Nat.le_of_ble_eq_true rfl⟩) hS hA (fun H locs hM hS => ?_)
      refine lv_aload_n hx hb dX2_putCoin_59 rfl (lv_at hl 2 rfl) ?_
      refine k_getR (C := RX2) (T := TX2) (N := 13) hx hb hts iX2 hown hK hM 1 rfl rfl 8 (by decide) rfl w3 (fun _ h9 => h9) dX2_putCoin_60 ?_
      refine lv_iload hx hb dX2_putCoin_63 (lv_at hl 0 rfl) ?_
      refine lv_iload_n hx hb dX2_putCoin_65 rfl (lv_at hl 3 rfl) ?_
      obtain ⟨g66, h⟩ := grd_s h
      refine k_iast (v := p1) hx hb hK hM hJ hA hS 9 rfl g66 dX2_putCoin_66 (fun H locs hM hS => ?_)
      obtain ⟨G68, eG68, h⟩ := olet_s h
      rw [eG68] at hM
      refine lv_aload_n hx hb dX2_putCoin_67 rfl (lv_at hl 2 rfl) ?_
      refine k_getR (C := RX2) (T := TX2) (N := 13) hx hb hts iX2 hown hK hM 1 rfl rfl 9 (by decide) rfl w4 (fun _ h9 => h9) dX2_putCoin_68 ?_
      refine lv_iload hx hb dX2_putCoin_71 (lv_at hl 0 rfl) ?_
      refine lv_aload_n hx hb dX2_putCoin_73 rfl (lv_at hl 2 rfl) ?_
      refine lv_iload hx hb dX2_putCoin_74 (lv_at hl 0 rfl) ?_
      refine lv_iload_n hx hb dX2_putCoin_76 rfl (lv_at hl 4 rfl) ?_
      obtain ⟨r77, e77, h⟩ := bind_s h
      refine k_cI (va_runV (As := [.int (r3 - (10 : Int32)), .int p2]) (rest := [.int (r3 - (10 : Int32)), .ref (q 10)]) ⟨hx, hb, hml, hown, hts⟩ (kX2_wearAt l D cI cR q G68 K (r3 - (10 : Int32)) p2 r77 e77) (cwV 2 hts gX2_putCoin_X2_wearAt rfl rfl rfl (by decide +kernel) ⟨Nat.le_of_ble_eq_true rfl, Nat.le_of_ble_eq_true rfl⟩) (mPreV hK hM 1 rfl rfl) rfl rfl hl.1 rfl (lv_room (Nat.le_of_ble_eq_true rfl)) dX2_putCoin_77 ⟨Nat.le_of_ble_eq_true rfl, Nat.le_of_ble_eq_true rfl⟩) hS hM (fun H locs hM hS => ?_)
      obtain ⟨g80, h⟩ := grd_s h
      refine k_iast (v := r77) hx hb hK hM hJ hA hS 10 rfl g80 dX2_putCoin_80 (fun H locs hM hS => ?_)
      obtain ⟨G82, eG82, h⟩ := olet_s h
      rw [eG82] at hM
      refine lv_goto (tgt := 109) hx hb dX2_putCoin_81 (by decide) ?_
      refine lv_iload_n hx hb dX2_putCoin_109 rfl (lv_at hl 1 rfl) ?_
      have h := Option.some.inj h
      exact W.iret (v := r3) hx hb hr (fun t ht hW => ⟨⟨r3, (), rfl, p_fst h, w_end ht hM (p_snd h)⟩, hS.F ht⟩) hS.2.2 dX2_putCoin_110
  · replace h := ite_t h c19
    refine lv_aload_n hx hb dX2_putCoin_22 rfl (lv_at hl 1 rfl) ?_
    refine lv_bipush (v := 6) hx hb dX2_putCoin_23 (by decide) ?_
    obtain ⟨r25, e25, h⟩ := bind_s h
    refine k_cVW (va_runV (As := [.int (6 : Int32)]) (rest := []) ⟨hx, hb, hml, hown, hts⟩ (kX2_rollOver l D cI cR q G18 K (6 : Int32) hJ r25 e25) (cwV 1 hts gX2_putCoin_X2_rollOver rfl rfl rfl (by decide +kernel) ⟨Nat.le_of_ble_eq_true rfl, Nat.le_of_ble_eq_true rfl⟩) (mPreV hK hM 1 rfl rfl) rfl rfl hl.1 rfl (lv_room (Nat.le_of_ble_eq_true rfl)) dX2_putCoin_25 ⟨Nat.le_of_ble_eq_true rfl, Nat.le_of_ble_eq_true rfl⟩) hS hA (fun H locs hM hS => ?_)
    refine lv_aload_n hx hb dX2_putCoin_28 rfl (lv_at hl 1 rfl) ?_
    refine k_getR (C := RX2) (T := TX2) (N := 13) hx hb hts iX2 hown hK hM 1 rfl rfl 5 (by decide) rfl w5 (fun _ h9 => h9) dX2_putCoin_29 ?_
    refine lv_iload_n hx hb dX2_putCoin_32 rfl (lv_at hl 2 rfl) ?_
    refine lv_dup2_11 hx hb dX2_putCoin_33 rfl rfl ?_
    obtain ⟨g34, h⟩ := grd_s h
    refine k_iald hx hb hK hM 6 rfl g34 dX2_putCoin_34 ?_
    refine lv_iconst (v := 1) hx hb dX2_putCoin_35 (by decide) ?_
    refine lv_iadd hx hb dX2_putCoin_36 ?_
    obtain ⟨g37, h⟩ := grd_s h
    refine k_iast (v := ((r25 6 p1.toNatClampNeg) + (1 : Int32))) hx hb hK hM hJ hA hS 6 rfl g37 dX2_putCoin_37 (fun H locs hM hS => ?_)
    obtain ⟨G39, eG39, h⟩ := olet_s h
    rw [eG39] at hM
    refine lv_goto (tgt := 109) hx hb dX2_putCoin_38 (by decide) ?_
    refine lv_iload_n hx hb dX2_putCoin_109 rfl (lv_at hl 0 rfl) ?_
    have h := Option.some.inj h
    exact W.iret (v := r3) hx hb hr (fun t ht hW => ⟨⟨r3, (), rfl, p_fst h, w_end ht hM (p_snd h)⟩, hS.F ht⟩) hS.2.2 dX2_putCoin_110
set_option maxHeartbeats 4000000 in
set_option maxRecDepth 100000 in
theorem kX2_putCoinsByChance (l : Launch) (D : va_G) (cI cR : ClassId) (q : Nat → Nat) (G : Nat → Nat → Int32) (K : Nat) (p1 : Int32) (p2 : Int32) (hJ : MJ tmC q) (r : (Int32 × (Nat → Nat → Int32))) (hs : sX2_putCoinsByChance K G p1 p2 = some r) : Met l yX2_putCoinsByChance wsX2_putCoinsByChance ({ frames := 4, cells := 0, slots := 0, locals := 93 } : Room) (mPre [.ref (q 1), .int p1, .int p2] D cI cR q tmC G) (mIW D cI cR q tmC r) 0 0 (MA tmC q) := by
  refine Met.ofW (cc := cX2_putCoinsByChance) (maxL := 9) (ret := (some .int)) (by decide) rfl ?_
  intro p e s m args below meth c s₁ B hml hv
  obtain ⟨hargs, hM, hK⟩ := hv
  have hx := B.exec
  have hb := B.bytes
  have hr := B.returns
  have hts := atoms_spec (ws := wsX2_putCoinsByChance) B.pre
  have hown : s.vm.findClass RX2 = some m.cls := findClass_of_methodNamed B.named
  have hlocks := B.notSynchronized
  have hA : ∀ a, MA tmC q a → MA tmC q a := fun _ h => h
  have hS : va_S (MA tmC q) s.heap s.heap [] := va_S.rf
  have w0 := hts (Cond.constantLong RX2 94 (1103515245)) (List.mem_of_getElem? (i := 1) (by decide +kernel))
  have w1 := hts (Cond.constantLong RX2 96 (12345)) (List.mem_of_getElem? (i := 2) (by decide +kernel))
  have w2 := hts (Cond.constantLong RX2 98 (2147483648)) (List.mem_of_getElem? (i := 3) (by decide +kernel))
  have w3 := hts (Cond.constantLong RX2 100 (65536)) (List.mem_of_getElem? (i := 4) (by decide +kernel))
  have w4 := hts (Cond.fieldLink RX2 45 "CoinRails$State" "kinds" "I") (List.mem_of_getElem? (i := 5) (by decide +kernel))
  have iX2 : ∀ w ∈ wsX20, w ∈ wsX2_putCoinsByChance := fun _ h => List.mem_cons_of_mem _ (List.mem_append_right _ (h))
  have w6 := hts (Cond.constantLong RX2 102 (1048576)) (List.mem_of_getElem? (i := 6) (by decide +kernel))
  have w7 := hts (Cond.constantLong RX2 104 (40)) (List.mem_of_getElem? (i := 7) (by decide +kernel))
  have L9 : ∀ (n : Nat), ∀ (G1 : Nat → Nat → Int32) (x3 : Int64) (x5 : Int32) (x6 : Int32) (H : Heap) (locs : List Loc) (ls : Array Slot), sX2_putCoinsByChance_L9 K p1 p2 n G1 x3 x5 x6 = some r → MW D cI cR q tmC G1 H → va_S (MA tmC q) s.heap H locs → lv_has ls 9 [(0, .ref (q 1)), (1, .int p1), (2, .int p2), (3, .long x3), (5, .int x5), (6, .int x6)] → W p l e (headSpec wsX2_putCoinsByChance ({ frames := 4, cells := 0, slots := 0, locals := 93 } : Room)).room s m args below meth c H locs 0 0 (MQ below (mIW D cI cR q tmC r) args s 0 0 (MA tmC q)) (F0 m 9 ls []) := by
    clear hM hS
    intro n
    induction n with
    | zero => exact fun _ _ _ _ _ _ _ h => absurd h (by simp [sX2_putCoinsByChance_L9])
    | succ n ih =>
      intro G1 x3 x5 x6 H locs ls h hM hS hl
      rw [sX2_putCoinsByChance_L9] at h
      refine lv_iload hx hb dX2_putCoinsByChance_9 (lv_at hl 5 rfl) ?_
      refine lv_iload_n hx hb dX2_putCoinsByChance_11 rfl (lv_at hl 1 rfl) ?_
      refine lv_icmp_ge (tgt := 76) hx hb dX2_putCoinsByChance_12 (by decide) (fun c12 => ?_) (fun c12 => ?_)
      · replace h := ite_t h c12
        refine lv_iload hx hb dX2_putCoinsByChance_76 (lv_at hl 4 rfl) ?_
        have h := Option.some.inj h
        exact W.iret (v := x5) hx hb hr (fun t ht hW => ⟨⟨x5, (), rfl, p_fst h, w_end ht hM (p_snd h)⟩, hS.F ht⟩) hS.2.2 dX2_putCoinsByChance_78
      · replace h := ite_f h c12
        refine lv_ldc2 hx hb hown w0 dX2_putCoinsByChance_15 ?_
        refine lv_lload_n hx hb dX2_putCoinsByChance_18 rfl (lv_at hl 3 rfl) ?_
        refine lv_lmul hx hb dX2_putCoinsByChance_19 ?_
        refine lv_ldc2 hx hb hown w1 dX2_putCoinsByChance_20 ?_
        refine lv_ladd hx hb dX2_putCoinsByChance_23 ?_
        refine lv_ldc2 hx hb hown w2 dX2_putCoinsByChance_24 ?_
        refine lv_lrem hx hb dX2_putCoinsByChance_27 (by decide) ?_
        refine lv_lstore_n (lv' := [(3, .long ((((1103515245 : Int64) * x3) + (12345 : Int64)) - (((1103515245 : Int64) * x3) + (12345 : Int64)) / (2147483648 : Int64) * (2147483648 : Int64))), (0, .ref (q 1)), (1, .int p1), (2, .int p2), (5, .int x5), (6, .int x6)]) hx hb dX2_putCoinsByChance_28 rfl hl (by decide) rfl (fun ls hl => ?_)
        refine lv_lload_n hx hb dX2_putCoinsByChance_29 rfl (lv_at hl 0 rfl) ?_
        refine lv_ldc2 hx hb hown w3 dX2_putCoinsByChance_30 ?_
        refine lv_ldiv hx hb dX2_putCoinsByChance_33 (by decide) ?_
        refine lv_aload_n hx hb dX2_putCoinsByChance_34 rfl (lv_at hl 1 rfl) ?_
        refine k_getI (C := RX2) (T := TX2) (N := 13) hx hb hts iX2 hown hK hM 1 rfl rfl 0 (by decide) rfl w4 (fun _ h9 => h9) dX2_putCoinsByChance_35 ?_
        refine lv_i2l (v := (G1 1 0).toInt64) hx hb dX2_putCoinsByChance_38 rfl ?_
        obtain ⟨g39, h⟩ := grd_s h
        refine lv_lrem hx hb dX2_putCoinsByChance_39 (of_decide_eq_true g39) ?_
        refine lv_l2i (v := ((((((1103515245 : Int64) * x3) + (12345 : Int64)) - (((1103515245 : Int64) * x3) + (12345 : Int64)) / (2147483648 : Int64) * (2147483648 : Int64)) / (65536 : Int64)) - (((((1103515245 : Int64) * x3) + (12345 : Int64)) - (((1103515245 : Int64) * x3) + (12345 : Int64)) / (2147483648 : Int64) * (2147483648 : Int64)) / (65536 : Int64)) / (G1 1 0).toInt64 * (G1 1 0).toInt64).toInt32) hx hb dX2_putCoinsByChance_40 rfl ?_
        refine lv_istore (lv' := [(7, .int (((((((1103515245 : Int64) * x3) + (12345 : Int64)) - (((1103515245 : Int64) * x3) + (12345 : Int64)) / (2147483648 : Int64) * (2147483648 : Int64)) / (65536 : Int64)) - (((((1103515245 : Int64) * x3) + (12345 : Int64)) - (((1103515245 : Int64) * x3) + (12345 : Int64)) / (2147483648 : Int64) * (2147483648 : Int64)) / (65536 : Int64)) / (G1 1 0).toInt64 * (G1 1 0).toInt64).toInt32)), (3, .long ((((1103515245 : Int64) * x3) + (12345 : Int64)) - (((1103515245 : Int64) * x3) + (12345 : Int64)) / (2147483648 : Int64) * (2147483648 : Int64))), (0, .ref (q 1)), (1, .int p1), (2, .int p2), (5, .int x5), (6, .int x6)]) hx hb dX2_putCoinsByChance_41 hl (by decide) rfl (fun ls hl => ?_)
        refine lv_lload_n hx hb dX2_putCoinsByChance_43 rfl (lv_at hl 1 rfl) ?_
        refine lv_ldc2 hx hb hown w6 dX2_putCoinsByChance_44 ?_
        refine lv_ldiv hx hb dX2_putCoinsByChance_47 (by decide) ?_
        refine lv_ldc2 hx hb hown w7 dX2_putCoinsByChance_48 ?_
        refine lv_lrem hx hb dX2_putCoinsByChance_51 (by decide) ?_
        refine lv_l2i (v := ((((((1103515245 : Int64) * x3) + (12345 : Int64)) - (((1103515245 : Int64) * x3) + (12345 : Int64)) / (2147483648 : Int64) * (2147483648 : Int64)) / (1048576 : Int64)) - (((((1103515245 : Int64) * x3) + (12345 : Int64)) - (((1103515245 : Int64) * x3) + (12345 : Int64)) / (2147483648 : Int64) * (2147483648 : Int64)) / (1048576 : Int64)) / (40 : Int64) * (40 : Int64)).toInt32) hx hb dX2_putCoinsByChance_52 rfl ?_
        refine lv_istore (lv' := [(8, .int (((((((1103515245 : Int64) * x3) + (12345 : Int64)) - (((1103515245 : Int64) * x3) + (12345 : Int64)) / (2147483648 : Int64) * (2147483648 : Int64)) / (1048576 : Int64)) - (((((1103515245 : Int64) * x3) + (12345 : Int64)) - (((1103515245 : Int64) * x3) + (12345 : Int64)) / (2147483648 : Int64) * (2147483648 : Int64)) / (1048576 : Int64)) / (40 : Int64) * (40 : Int64)).toInt32)), (7, .int (((((((1103515245 : Int64) * x3) + (12345 : Int64)) - (((1103515245 : Int64) * x3) + (12345 : Int64)) / (2147483648 : Int64) * (2147483648 : Int64)) / (65536 : Int64)) - (((((1103515245 : Int64) * x3) + (12345 : Int64)) - (((1103515245 : Int64) * x3) + (12345 : Int64)) / (2147483648 : Int64) * (2147483648 : Int64)) / (65536 : Int64)) / (G1 1 0).toInt64 * (G1 1 0).toInt64).toInt32)), (3, .long ((((1103515245 : Int64) * x3) + (12345 : Int64)) - (((1103515245 : Int64) * x3) + (12345 : Int64)) / (2147483648 : Int64) * (2147483648 : Int64))), (0, .ref (q 1)), (1, .int p1), (2, .int p2), (5, .int x5), (6, .int x6)]) hx hb dX2_putCoinsByChance_53 hl (by decide) rfl (fun ls hl => ?_)
        refine lv_aload_n hx hb dX2_putCoinsByChance_55 rfl (lv_at hl 3 rfl) ?_
        refine lv_iload hx hb dX2_putCoinsByChance_56 (lv_at hl 1 rfl) ?_
        refine lv_iload hx hb dX2_putCoinsByChance_58 (lv_at hl 0 rfl) ?_
        obtain ⟨r60, e60, h⟩ := bind_s h
        refine k_cIW (va_runV (As := [.int (((((((1103515245 : Int64) * x3) + (12345 : Int64)) - (((1103515245 : Int64) * x3) + (12345 : Int64)) / (2147483648 : Int64) * (2147483648 : Int64)) / (65536 : Int64)) - (((((1103515245 : Int64) * x3) + (12345 : Int64)) - (((1103515245 : Int64) * x3) + (12345 : Int64)) / (2147483648 : Int64) * (2147483648 : Int64)) / (65536 : Int64)) / (G1 1 0).toInt64 * (G1 1 0).toInt64).toInt32), .int (((((((1103515245 : Int64) * x3) + (12345 : Int64)) - (((1103515245 : Int64) * x3) + (12345 : Int64)) / (2147483648 : Int64) * (2147483648 : Int64)) / (1048576 : Int64)) - (((((1103515245 : Int64) * x3) + (12345 : Int64)) - (((1103515245 : Int64) * x3) + (12345 : Int64)) / (2147483648 : Int64) * (2147483648 : Int64)) / (1048576 : Int64)) / (40 : Int64) * (40 : Int64)).toInt32)]) (rest := []) ⟨hx, hb, hml, hown, hts⟩ (kX2_putCoin l D cI cR q G1 K (((((((1103515245 : Int64) * x3) + (12345 : Int64)) - (((1103515245 : Int64) * x3) + (12345 : Int64)) / (2147483648 : Int64) * (2147483648 : Int64)) / (65536 : Int64)) - (((((1103515245 : Int64) * x3) + (12345 : Int64)) - (((1103515245 : Int64) * x3) + (12345 : Int64)) / (2147483648 : Int64) * (2147483648 : Int64)) / (65536 : Int64)) / (G1 1 0).toInt64 * (G1 1 0).toInt64).toInt32) (((((((1103515245 : Int64) * x3) + (12345 : Int64)) - (((1103515245 : Int64) * x3) + (12345 : Int64)) / (2147483648 : Int64) * (2147483648 : Int64)) / (1048576 : Int64)) - (((((1103515245 : Int64) * x3) + (12345 : Int64)) - (((1103515245 : Int64) * x3) + (12345 : Int64)) / (2147483648 : Int64) * (2147483648 : Int64)) / (1048576 : Int64)) / (40 : Int64) * (40 : Int64)).toInt32) hJ r60 e60) (cwV 2 hts gX2_putCoinsByChance_X2_putCoin rfl rfl rfl (by decide +kernel) ⟨Nat.le_of_ble_eq_true rfl, Nat.le_of_ble_eq_true rfl⟩) (mPreV hK hM 1 rfl rfl) rfl rfl hl.1 rfl (lv_room (Nat.le_of_ble_eq_true rfl)) dX2_putCoinsByChance_60 ⟨Nat.le_of_ble_eq_true rfl, Nat.le_of_ble_eq_true rfl⟩) hS hA (fun H locs hM hS => ?_)
        refine lv_iconst (v := -1) hx hb dX2_putCoinsByChance_63 (by decide) ?_
        refine lv_icmp_ne (tgt := 70) hx hb dX2_putCoinsByChance_64 (by decide) (fun c64 => ?_) (fun c64 => ?_)
        · replace h := ite_f h c64
          refine lv_iinc (v := (x6 + 1)) (lv' := [(6, .int (x6 + 1)), (8, .int (((((((1103515245 : Int64) * x3) + (12345 : Int64)) - (((1103515245 : Int64) * x3) + (12345 : Int64)) / (2147483648 : Int64) * (2147483648 : Int64)) / (1048576 : Int64)) - (((((1103515245 : Int64) * x3) + (12345 : Int64)) - (((1103515245 : Int64) * x3) + (12345 : Int64)) / (2147483648 : Int64) * (2147483648 : Int64)) / (1048576 : Int64)) / (40 : Int64) * (40 : Int64)).toInt32)), (7, .int (((((((1103515245 : Int64) * x3) + (12345 : Int64)) - (((1103515245 : Int64) * x3) + (12345 : Int64)) / (2147483648 : Int64) * (2147483648 : Int64)) / (65536 : Int64)) - (((((1103515245 : Int64) * x3) + (12345 : Int64)) - (((1103515245 : Int64) * x3) + (12345 : Int64)) / (2147483648 : Int64) * (2147483648 : Int64)) / (65536 : Int64)) / (G1 1 0).toInt64 * (G1 1 0).toInt64).toInt32)), (3, .long ((((1103515245 : Int64) * x3) + (12345 : Int64)) - (((1103515245 : Int64) * x3) + (12345 : Int64)) / (2147483648 : Int64) * (2147483648 : Int64))), (0, .ref (q 1)), (1, .int p1), (2, .int p2), (5, .int x5)]) hx hb dX2_putCoinsByChance_70 hl (k := 7) rfl (congrArg (fun z : Int32 => x6 + z) (show Int32.ofInt (1) = 1 by decide)) (by decide) rfl (fun ls hl => ?_)
          refine lv_goto (tgt := 9) hx hb dX2_putCoinsByChance_73 (by decide) ?_
          exact ih r60.2 ((((1103515245 : Int64) * x3) + (12345 : Int64)) - (((1103515245 : Int64) * x3) + (12345 : Int64)) / (2147483648 : Int64) * (2147483648 : Int64)) x5 (x6 + 1) _ _ _ h hM hS (lv_sub hl [4, 5, 6, 3, 7, 0] rfl)
        · replace h := ite_t h c64
          refine lv_iinc (v := (x5 + 1)) (lv' := [(5, .int (x5 + 1)), (8, .int (((((((1103515245 : Int64) * x3) + (12345 : Int64)) - (((1103515245 : Int64) * x3) + (12345 : Int64)) / (2147483648 : Int64) * (2147483648 : Int64)) / (1048576 : Int64)) - (((((1103515245 : Int64) * x3) + (12345 : Int64)) - (((1103515245 : Int64) * x3) + (12345 : Int64)) / (2147483648 : Int64) * (2147483648 : Int64)) / (1048576 : Int64)) / (40 : Int64) * (40 : Int64)).toInt32)), (7, .int (((((((1103515245 : Int64) * x3) + (12345 : Int64)) - (((1103515245 : Int64) * x3) + (12345 : Int64)) / (2147483648 : Int64) * (2147483648 : Int64)) / (65536 : Int64)) - (((((1103515245 : Int64) * x3) + (12345 : Int64)) - (((1103515245 : Int64) * x3) + (12345 : Int64)) / (2147483648 : Int64) * (2147483648 : Int64)) / (65536 : Int64)) / (G1 1 0).toInt64 * (G1 1 0).toInt64).toInt32)), (3, .long ((((1103515245 : Int64) * x3) + (12345 : Int64)) - (((1103515245 : Int64) * x3) + (12345 : Int64)) / (2147483648 : Int64) * (2147483648 : Int64))), (0, .ref (q 1)), (1, .int p1), (2, .int p2), (6, .int x6)]) hx hb dX2_putCoinsByChance_67 hl (k := 6) rfl (congrArg (fun z : Int32 => x5 + z) (show Int32.ofInt (1) = 1 by decide)) (by decide) rfl (fun ls hl => ?_)
          refine lv_iinc (v := (x6 + 1)) (lv' := [(6, .int (x6 + 1)), (5, .int (x5 + 1)), (8, .int (((((((1103515245 : Int64) * x3) + (12345 : Int64)) - (((1103515245 : Int64) * x3) + (12345 : Int64)) / (2147483648 : Int64) * (2147483648 : Int64)) / (1048576 : Int64)) - (((((1103515245 : Int64) * x3) + (12345 : Int64)) - (((1103515245 : Int64) * x3) + (12345 : Int64)) / (2147483648 : Int64) * (2147483648 : Int64)) / (1048576 : Int64)) / (40 : Int64) * (40 : Int64)).toInt32)), (7, .int (((((((1103515245 : Int64) * x3) + (12345 : Int64)) - (((1103515245 : Int64) * x3) + (12345 : Int64)) / (2147483648 : Int64) * (2147483648 : Int64)) / (65536 : Int64)) - (((((1103515245 : Int64) * x3) + (12345 : Int64)) - (((1103515245 : Int64) * x3) + (12345 : Int64)) / (2147483648 : Int64) * (2147483648 : Int64)) / (65536 : Int64)) / (G1 1 0).toInt64 * (G1 1 0).toInt64).toInt32)), (3, .long ((((1103515245 : Int64) * x3) + (12345 : Int64)) - (((1103515245 : Int64) * x3) + (12345 : Int64)) / (2147483648 : Int64) * (2147483648 : Int64))), (0, .ref (q 1)), (1, .int p1), (2, .int p2)]) hx hb dX2_putCoinsByChance_70 hl (k := 7) rfl (congrArg (fun z : Int32 => x6 + z) (show Int32.ofInt (1) = 1 by decide)) (by decide) rfl (fun ls hl => ?_)
          refine lv_goto (tgt := 9) hx hb dX2_putCoinsByChance_73 (by decide) ?_
          exact ih r60.2 ((((1103515245 : Int64) * x3) + (12345 : Int64)) - (((1103515245 : Int64) * x3) + (12345 : Int64)) / (2147483648 : Int64) * (2147483648 : Int64)) (x5 + 1) (x6 + 1) _ _ _ h hM hS (lv_sub hl [5, 6, 7, 4, 1, 0] rfl)
  subst hargs
  have hl := lv_entry ([.ref (q 1), .int p1, .int p2]) (n := 9) (Nat.le_of_ble_eq_true rfl)
  rw [lg_entry_eq]
  generalize (lg_sl ([.ref (q 1), .int p1, .int p2]) ++ List.replicate (9 - (lg_sl ([.ref (q 1), .int p1, .int p2])).length) Slot.unset).toArray = ls at hl ⊢
  have hl : lv_has ls 9 [(0, .ref (q 1)), (1, .int p1), (2, .int p2)] := hl
  have h := hs
  unfold sX2_putCoinsByChance at h
  have hM0 := hM
  refine lv_iload_n hx hb dX2_putCoinsByChance_0 rfl (lv_at hl 2 rfl) ?_
  refine lv_i2l (v := p2.toInt64) hx hb dX2_putCoinsByChance_1 rfl ?_
  refine lv_lstore_n (lv' := [(3, .long p2.toInt64), (0, .ref (q 1)), (1, .int p1), (2, .int p2)]) hx hb dX2_putCoinsByChance_2 rfl hl (by decide) rfl (fun ls hl => ?_)
  refine lv_iconst (v := 0) hx hb dX2_putCoinsByChance_3 (by decide) ?_
  refine lv_istore (lv' := [(5, .int (0 : Int32)), (3, .long p2.toInt64), (0, .ref (q 1)), (1, .int p1), (2, .int p2)]) hx hb dX2_putCoinsByChance_4 hl (by decide) rfl (fun ls hl => ?_)
  refine lv_iconst (v := 0) hx hb dX2_putCoinsByChance_6 (by decide) ?_
  refine lv_istore (lv' := [(6, .int (0 : Int32)), (5, .int (0 : Int32)), (3, .long p2.toInt64), (0, .ref (q 1)), (1, .int p1), (2, .int p2)]) hx hb dX2_putCoinsByChance_7 hl (by decide) rfl (fun ls hl => ?_)
  exact L9 K G p2.toInt64 (0 : Int32) (0 : Int32) _ _ _ h hM hS (lv_sub hl [3, 4, 5, 2, 1, 0] rfl)
set_option maxHeartbeats 4000000 in
set_option maxRecDepth 100000 in
theorem kX2_loosen (l : Launch) (D : va_G) (cI cR : ClassId) (q : Nat → Nat) (G : Nat → Nat → Int32) (K : Nat) (p1 : Int32) (hJ : MJ tmC q) (r : (Int32 × (Nat → Nat → Int32))) (hs : sX2_loosen K G p1 = some r) : Met l yX2_loosen wsX2_loosen ({ frames := 2, cells := 0, slots := 0, locals := 44 } : Room) (mPre [.ref (q 1), .int p1] D cI cR q tmC G) (mIW D cI cR q tmC r) 0 0 (MA tmC q) := by
  refine Met.ofW (cc := cX2_loosen) (maxL := 3) (ret := (some .int)) (by decide) rfl ?_
  intro p e s m args below meth c s₁ B hml hv
  obtain ⟨hargs, hM, hK⟩ := hv
  have hx := B.exec
  have hb := B.bytes
  have hr := B.returns
  have hts := atoms_spec (ws := wsX2_loosen) B.pre
  have hown : s.vm.findClass RX2 = some m.cls := findClass_of_methodNamed B.named
  have hlocks := B.notSynchronized
  have hA : ∀ a, MA tmC q a → MA tmC q a := fun _ h => h
  have hS : va_S (MA tmC q) s.heap s.heap [] := va_S.rf
  have w0 := hts (Cond.fieldLink RX2 33 "CoinRails$State" "stuckKind" "[I") (List.mem_of_getElem? (i := 1) (by decide +kernel))
  have iX2 : ∀ w ∈ wsX20, w ∈ wsX2_loosen := fun _ h => List.mem_cons_of_mem _ (List.mem_append_right _ (h))
  have w2 := hts (Cond.fieldLink RX2 42 "CoinRails$State" "bags" "[I") (List.mem_of_getElem? (i := 3) (by decide +kernel))
  have w3 := hts (Cond.fieldLink RX2 36 "CoinRails$State" "stuckWear" "[I") (List.mem_of_getElem? (i := 4) (by decide +kernel))
  have w4 := hts (Cond.fieldLink RX2 24 "CoinRails$State" "rejects" "[I") (List.mem_of_getElem? (i := 2) (by decide +kernel))
  subst hargs
  have hl := lv_entry ([.ref (q 1), .int p1]) (n := 3) (Nat.le_of_ble_eq_true rfl)
  rw [lg_entry_eq]
  generalize (lg_sl ([.ref (q 1), .int p1]) ++ List.replicate (3 - (lg_sl ([.ref (q 1), .int p1])).length) Slot.unset).toArray = ls at hl ⊢
  have hl : lv_has ls 3 [(0, .ref (q 1)), (1, .int p1)] := hl
  have h := hs
  unfold sX2_loosen at h
  have hM0 := hM
  refine lv_aload_n hx hb dX2_loosen_0 rfl (lv_at hl 0 rfl) ?_
  refine k_getR (C := RX2) (T := TX2) (N := 13) hx hb hts iX2 hown hK hM 1 rfl rfl 8 (by decide) rfl w0 (fun _ h9 => h9) dX2_loosen_1 ?_
  refine lv_iload_n hx hb dX2_loosen_4 rfl (lv_at hl 1 rfl) ?_
  obtain ⟨g5, h⟩ := grd_s h
  refine k_iald hx hb hK hM 9 rfl g5 dX2_loosen_5 ?_
  refine lv_istore_n (lv' := [(2, .int (G 9 p1.toNatClampNeg)), (0, .ref (q 1)), (1, .int p1)]) hx hb dX2_loosen_6 rfl hl (by decide) rfl (fun ls hl => ?_)
  refine lv_aload_n hx hb dX2_loosen_7 rfl (lv_at hl 1 rfl) ?_
  refine lv_iload_n hx hb dX2_loosen_8 rfl (lv_at hl 2 rfl) ?_
  obtain ⟨r9, e9, h⟩ := bind_s h
  refine k_cI (va_runV (As := [.int p1]) (rest := []) ⟨hx, hb, hml, hown, hts⟩ (kX2_isFull l D cI cR q G K p1 r9 e9) (cwV 1 hts gX2_loosen_X2_isFull rfl rfl rfl (by decide +kernel) ⟨Nat.le_of_ble_eq_true rfl, Nat.le_of_ble_eq_true rfl⟩) (mPreV hK hM 1 rfl rfl) rfl rfl hl.1 rfl (lv_room (Nat.le_of_ble_eq_true rfl)) dX2_loosen_9 ⟨Nat.le_of_ble_eq_true rfl, Nat.le_of_ble_eq_true rfl⟩) hS hM (fun H locs hM hS => ?_)
  refine lv_if_eq (tgt := 28) hx hb dX2_loosen_12 (by decide) (fun c12 => ?_) (fun c12 => ?_)
  · replace h := ite_t h c12
    refine lv_aload_n hx hb dX2_loosen_28 rfl (lv_at hl 1 rfl) ?_
    refine k_getR (C := RX2) (T := TX2) (N := 13) hx hb hts iX2 hown hK hM 1 rfl rfl 11 (by decide) rfl w2 (fun _ h9 => h9) dX2_loosen_29 ?_
    refine lv_iload_n hx hb dX2_loosen_32 rfl (lv_at hl 2 rfl) ?_
    refine lv_bipush (v := 6) hx hb dX2_loosen_33 (by decide) ?_
    refine lv_imul hx hb dX2_loosen_35 ?_
    refine lv_iload_n hx hb dX2_loosen_36 rfl (lv_at hl 0 rfl) ?_
    refine lv_iadd hx hb dX2_loosen_37 ?_
    refine lv_dup2_11 hx hb dX2_loosen_38 rfl rfl ?_
    obtain ⟨g39, h⟩ := grd_s h
    refine k_iald hx hb hK hM 12 rfl g39 dX2_loosen_39 ?_
    refine lv_iconst (v := 1) hx hb dX2_loosen_40 (by decide) ?_
    refine lv_iadd hx hb dX2_loosen_41 ?_
    obtain ⟨g42, h⟩ := grd_s h
    refine k_iast (v := ((G 12 ((p1 * (6 : Int32)) + (G 9 p1.toNatClampNeg)).toNatClampNeg) + (1 : Int32))) hx hb hK hM hJ hA hS 12 rfl g42 dX2_loosen_42 (fun H locs hM hS => ?_)
    obtain ⟨G44, eG44, h⟩ := olet_s h
    rw [eG44] at hM
    refine lv_aload_n hx hb dX2_loosen_43 rfl (lv_at hl 1 rfl) ?_
    refine k_getR (C := RX2) (T := TX2) (N := 13) hx hb hts iX2 hown hK hM 1 rfl rfl 8 (by decide) rfl w0 (fun _ h9 => h9) dX2_loosen_44 ?_
    refine lv_iload_n hx hb dX2_loosen_47 rfl (lv_at hl 2 rfl) ?_
    refine lv_iconst (v := -1) hx hb dX2_loosen_48 (by decide) ?_
    obtain ⟨g49, h⟩ := grd_s h
    refine k_iast (v := (-1 : Int32)) hx hb hK hM hJ hA hS 9 rfl g49 dX2_loosen_49 (fun H locs hM hS => ?_)
    obtain ⟨G51, eG51, h⟩ := olet_s h
    rw [eG51] at hM
    refine lv_aload_n hx hb dX2_loosen_50 rfl (lv_at hl 1 rfl) ?_
    refine k_getR (C := RX2) (T := TX2) (N := 13) hx hb hts iX2 hown hK hM 1 rfl rfl 9 (by decide) rfl w3 (fun _ h9 => h9) dX2_loosen_51 ?_
    refine lv_iload_n hx hb dX2_loosen_54 rfl (lv_at hl 2 rfl) ?_
    refine lv_iconst (v := -1) hx hb dX2_loosen_55 (by decide) ?_
    obtain ⟨g56, h⟩ := grd_s h
    refine k_iast (v := (-1 : Int32)) hx hb hK hM hJ hA hS 10 rfl g56 dX2_loosen_56 (fun H locs hM hS => ?_)
    obtain ⟨G58, eG58, h⟩ := olet_s h
    rw [eG58] at hM
    refine lv_iload_n hx hb dX2_loosen_57 rfl (lv_at hl 0 rfl) ?_
    have h := Option.some.inj h
    exact W.iret (v := (G 9 p1.toNatClampNeg)) hx hb hr (fun t ht hW => ⟨⟨(G 9 p1.toNatClampNeg), (), rfl, p_fst h, w_end ht hM (p_snd h)⟩, hS.F ht⟩) hS.2.2 dX2_loosen_58
  · replace h := ite_f h c12
    refine lv_aload_n hx hb dX2_loosen_15 rfl (lv_at hl 1 rfl) ?_
    refine k_getR (C := RX2) (T := TX2) (N := 13) hx hb hts iX2 hown hK hM 1 rfl rfl 5 (by decide) rfl w4 (fun _ h9 => h9) dX2_loosen_16 ?_
    refine lv_iload_n hx hb dX2_loosen_19 rfl (lv_at hl 0 rfl) ?_
    refine lv_dup2_11 hx hb dX2_loosen_20 rfl rfl ?_
    obtain ⟨g21, h⟩ := grd_s h
    refine k_iald hx hb hK hM 6 rfl g21 dX2_loosen_21 ?_
    refine lv_iconst (v := 1) hx hb dX2_loosen_22 (by decide) ?_
    refine lv_iadd hx hb dX2_loosen_23 ?_
    obtain ⟨g24, h⟩ := grd_s h
    refine k_iast (v := ((G 6 (G 9 p1.toNatClampNeg).toNatClampNeg) + (1 : Int32))) hx hb hK hM hJ hA hS 6 rfl g24 dX2_loosen_24 (fun H locs hM hS => ?_)
    obtain ⟨G26, eG26, h⟩ := olet_s h
    rw [eG26] at hM
    refine lv_goto (tgt := 43) hx hb dX2_loosen_25 (by decide) ?_
    refine lv_aload_n hx hb dX2_loosen_43 rfl (lv_at hl 1 rfl) ?_
    refine k_getR (C := RX2) (T := TX2) (N := 13) hx hb hts iX2 hown hK hM 1 rfl rfl 8 (by decide) rfl w0 (fun _ h9 => h9) dX2_loosen_44 ?_
    refine lv_iload_n hx hb dX2_loosen_47 rfl (lv_at hl 2 rfl) ?_
    refine lv_iconst (v := -1) hx hb dX2_loosen_48 (by decide) ?_
    obtain ⟨g49, h⟩ := grd_s h
    refine k_iast (v := (-1 : Int32)) hx hb hK hM hJ hA hS 9 rfl g49 dX2_loosen_49 (fun H locs hM hS => ?_)
    obtain ⟨G51, eG51, h⟩ := olet_s h
    rw [eG51] at hM
    refine lv_aload_n hx hb dX2_loosen_50 rfl (lv_at hl 1 rfl) ?_
    refine k_getR (C := RX2) (T := TX2) (N := 13) hx hb hts iX2 hown hK hM 1 rfl rfl 9 (by decide) rfl w3 (fun _ h9 => h9) dX2_loosen_51 ?_
    refine lv_iload_n hx hb dX2_loosen_54 rfl (lv_at hl 2 rfl) ?_
    refine lv_iconst (v := -1) hx hb dX2_loosen_55 (by decide) ?_
    obtain ⟨g56, h⟩ := grd_s h
    refine k_iast (v := (-1 : Int32)) hx hb hK hM hJ hA hS 10 rfl g56 dX2_loosen_56 (fun H locs hM hS => ?_)
    obtain ⟨G58, eG58, h⟩ := olet_s h
    rw [eG58] at hM
    refine lv_iload_n hx hb dX2_loosen_57 rfl (lv_at hl 0 rfl) ?_
    have h := Option.some.inj h
    exact W.iret (v := (G 9 p1.toNatClampNeg)) hx hb hr (fun t ht hW => ⟨⟨(G 9 p1.toNatClampNeg), (), rfl, p_fst h, w_end ht hM (p_snd h)⟩, hS.F ht⟩) hS.2.2 dX2_loosen_58
set_option maxHeartbeats 4000000 in
set_option maxRecDepth 100000 in
theorem kX2_emptyBag (l : Launch) (D : va_G) (cI cR : ClassId) (q : Nat → Nat) (G : Nat → Nat → Int32) (K : Nat) (p1 : Int32) (hJ : MJ tmC q) (r : (Int32 × (Nat → Nat → Int32))) (hs : sX2_emptyBag K G p1 = some r) : Met l yX2_emptyBag wsX2_emptyBag ({ frames := 1, cells := 0, slots := 0, locals := 23 } : Room) (mPre [.ref (q 1), .int p1] D cI cR q tmC G) (mIW D cI cR q tmC r) 0 0 (MA tmC q) := by
  refine Met.ofW (cc := cX2_emptyBag) (maxL := 4) (ret := (some .int)) (by decide) rfl ?_
  intro p e s m args below meth c s₁ B hml hv
  obtain ⟨hargs, hM, hK⟩ := hv
  have hx := B.exec
  have hb := B.bytes
  have hr := B.returns
  have hts := atoms_spec (ws := wsX2_emptyBag) B.pre
  have hown : s.vm.findClass RX2 = some m.cls := findClass_of_methodNamed B.named
  have hlocks := B.notSynchronized
  have hA : ∀ a, MA tmC q a → MA tmC q a := fun _ h => h
  have hS : va_S (MA tmC q) s.heap s.heap [] := va_S.rf
  have w0 := hts (Cond.fieldLink RX2 55 "CoinRails$State" "takenAway" "I") (List.mem_of_getElem? (i := 2) (by decide +kernel))
  have iX2 : ∀ w ∈ wsX20, w ∈ wsX2_emptyBag := fun _ h => List.mem_cons_of_mem _ (List.mem_append_right _ (h))
  have w2 := hts (Cond.fieldLink RX2 42 "CoinRails$State" "bags" "[I") (List.mem_of_getElem? (i := 1) (by decide +kernel))
  have L8 : ∀ (n : Nat), ∀ (G1 : Nat → Nat → Int32) (x2 : Int32) (x3 : Int32) (H : Heap) (locs : List Loc) (ls : Array Slot), sX2_emptyBag_L8 K p1 n G1 x2 x3 = some r → MW D cI cR q tmC G1 H → va_S (MA tmC q) s.heap H locs → lv_has ls 4 [(0, .ref (q 1)), (1, .int p1), (2, .int x2), (3, .int x3)] → W p l e (headSpec wsX2_emptyBag ({ frames := 1, cells := 0, slots := 0, locals := 23 } : Room)).room s m args below meth c H locs 0 0 (MQ below (mIW D cI cR q tmC r) args s 0 0 (MA tmC q)) (F0 m 8 ls []) := by
    clear hM hS
    intro n
    induction n with
    | zero => exact fun _ _ _ _ _ _ h => absurd h (by simp [sX2_emptyBag_L8])
    | succ n ih =>
      intro G1 x2 x3 H locs ls h hM hS hl
      rw [sX2_emptyBag_L8] at h
      refine lv_iload_n hx hb dX2_emptyBag_8 rfl (lv_at hl 3 rfl) ?_
      refine lv_bipush (v := 6) hx hb dX2_emptyBag_9 (by decide) ?_
      refine lv_icmp_ge (tgt := 32) hx hb dX2_emptyBag_11 (by decide) (fun c11 => ?_) (fun c11 => ?_)
      · replace h := ite_t h c11
        refine lv_aload_n hx hb dX2_emptyBag_32 rfl (lv_at hl 0 rfl) ?_
        refine lv_dup hx hb dX2_emptyBag_33 rfl ?_
        refine k_getI (C := RX2) (T := TX2) (N := 13) hx hb hts iX2 hown hK hM 1 rfl rfl 12 (by decide) rfl w0 (fun _ h9 => h9) dX2_emptyBag_34 ?_
        refine lv_iload_n hx hb dX2_emptyBag_37 rfl (lv_at hl 2 rfl) ?_
        refine lv_iadd hx hb dX2_emptyBag_38 ?_
        refine k_putI (C := RX2) (T := TX2) (N := 13) (v := ((G1 1 12) + x2)) hx hb hts iX2 tyX2 tyX2_ok nmX2 hown hK hM hJ hA hS 1 rfl rfl 12 (by decide) rfl w0 (fun _ h9 => h9) rfl (by decide +kernel) dX2_emptyBag_39 (fun H locs hM hS => ?_)
        obtain ⟨G41, eG41, h⟩ := olet_s h
        rw [eG41] at hM
        refine lv_iload_n hx hb dX2_emptyBag_42 rfl (lv_at hl 2 rfl) ?_
        have h := Option.some.inj h
        exact W.iret (v := x2) hx hb hr (fun t ht hW => ⟨⟨x2, (), rfl, p_fst h, w_end ht hM (p_snd h)⟩, hS.F ht⟩) hS.2.2 dX2_emptyBag_43
      · replace h := ite_f h c11
        refine lv_aload_n hx hb dX2_emptyBag_14 rfl (lv_at hl 0 rfl) ?_
        refine k_getR (C := RX2) (T := TX2) (N := 13) hx hb hts iX2 hown hK hM 1 rfl rfl 11 (by decide) rfl w2 (fun _ h9 => h9) dX2_emptyBag_15 ?_
        refine lv_iload_n hx hb dX2_emptyBag_18 rfl (lv_at hl 1 rfl) ?_
        refine lv_bipush (v := 6) hx hb dX2_emptyBag_19 (by decide) ?_
        refine lv_imul hx hb dX2_emptyBag_21 ?_
        refine lv_iload_n hx hb dX2_emptyBag_22 rfl (lv_at hl 3 rfl) ?_
        refine lv_iadd hx hb dX2_emptyBag_23 ?_
        refine lv_iconst (v := 0) hx hb dX2_emptyBag_24 (by decide) ?_
        obtain ⟨g25, h⟩ := grd_s h
        refine k_iast (v := (0 : Int32)) hx hb hK hM hJ hA hS 12 rfl g25 dX2_emptyBag_25 (fun H locs hM hS => ?_)
        obtain ⟨G27, eG27, h⟩ := olet_s h
        rw [eG27] at hM
        refine lv_iinc (v := (x3 + 1)) (lv' := [(3, .int (x3 + 1)), (0, .ref (q 1)), (1, .int p1), (2, .int x2)]) hx hb dX2_emptyBag_26 hl (k := 3) rfl (congrArg (fun z : Int32 => x3 + z) (show Int32.ofInt (1) = 1 by decide)) (by decide) rfl (fun ls hl => ?_)
        refine lv_goto (tgt := 8) hx hb dX2_emptyBag_29 (by decide) ?_
        exact ih G27 x2 (x3 + 1) _ _ _ h hM hS (lv_sub hl [1, 2, 3, 0] rfl)
  subst hargs
  have hl := lv_entry ([.ref (q 1), .int p1]) (n := 4) (Nat.le_of_ble_eq_true rfl)
  rw [lg_entry_eq]
  generalize (lg_sl ([.ref (q 1), .int p1]) ++ List.replicate (4 - (lg_sl ([.ref (q 1), .int p1])).length) Slot.unset).toArray = ls at hl ⊢
  have hl : lv_has ls 4 [(0, .ref (q 1)), (1, .int p1)] := hl
  have h := hs
  unfold sX2_emptyBag at h
  have hM0 := hM
  refine lv_aload_n hx hb dX2_emptyBag_0 rfl (lv_at hl 0 rfl) ?_
  refine lv_iload_n hx hb dX2_emptyBag_1 rfl (lv_at hl 1 rfl) ?_
  obtain ⟨r2, e2, h⟩ := bind_s h
  refine k_cI (va_runV (As := [.int p1]) (rest := []) ⟨hx, hb, hml, hown, hts⟩ (kX2_coinsIn l D cI cR q G K p1 r2 e2) (cwV 1 hts gX2_emptyBag_X2_coinsIn rfl rfl rfl (by decide +kernel) ⟨Nat.le_of_ble_eq_true rfl, Nat.le_of_ble_eq_true rfl⟩) (mPreV hK hM 1 rfl rfl) rfl rfl hl.1 rfl (lv_room (Nat.le_of_ble_eq_true rfl)) dX2_emptyBag_2 ⟨Nat.le_of_ble_eq_true rfl, Nat.le_of_ble_eq_true rfl⟩) hS hM (fun H locs hM hS => ?_)
  refine lv_istore_n (lv' := [(2, .int r2), (0, .ref (q 1)), (1, .int p1)]) hx hb dX2_emptyBag_5 rfl hl (by decide) rfl (fun ls hl => ?_)
  refine lv_iconst (v := 0) hx hb dX2_emptyBag_6 (by decide) ?_
  refine lv_istore_n (lv' := [(3, .int (0 : Int32)), (2, .int r2), (0, .ref (q 1)), (1, .int p1)]) hx hb dX2_emptyBag_7 rfl hl (by decide) rfl (fun ls hl => ?_)
  exact L8 K G r2 (0 : Int32) _ _ _ h hM hS (lv_sub hl [2, 3, 1, 0] rfl)
set_option maxHeartbeats 4000000 in
set_option maxRecDepth 100000 in
theorem kX2_sum (l : Launch) (D : va_G) (cI cR : ClassId) (q : Nat → Nat) (G : Nat → Nat → Int32) (K : Nat) (p1 : Nat) (n1 : Nat) (ht1 : tmC[p1]? = some (.inl n1)) (r : Int32) (hs : sX2_sum K G p1 n1 = some r) : Met l yX2_sum wsX2_sum ({ frames := 0, cells := 0, slots := 0, locals := 0 } : Room) (mPre [.ref (q p1)] D cI cR q tmC G) (mI r) 0 0 (fun _ => False) := by
  refine Met.ofW (cc := cX2_sum) (maxL := 6) (ret := (some .int)) (by decide) rfl ?_
  intro p e s m args below meth c s₁ B hml hv
  obtain ⟨hargs, hM, hK⟩ := hv
  have hx := B.exec
  have hb := B.bytes
  have hr := B.returns
  have hts := atoms_spec (ws := wsX2_sum) B.pre
  have hown : s.vm.findClass RX2 = some m.cls := findClass_of_methodNamed B.named
  have hlocks := B.notSynchronized
  have hS : va_S (fun _ => False) s.heap s.heap [] := va_S.rf
  have L10 : ∀ (n : Nat), ∀ (G : Nat → Nat → Int32) (x1 : Int32) (x3 : Int32) (x4 : Int32) (H : Heap) (locs : List Loc) (ls : Array Slot), sX2_sum_L10 K G p1 n1 n x1 x3 x4 = some r → MW D cI cR q tmC G H → va_S (fun _ => False) s.heap H locs → lv_has ls 6 [(0, .ref (q p1)), (1, .int x1), (2, .ref (q p1)), (3, .int x3), (4, .int x4)] → W p l e (headSpec wsX2_sum ({ frames := 0, cells := 0, slots := 0, locals := 0 } : Room)).room s m args below meth c H locs 0 0 (MQ below (mI r) args s 0 0 (fun _ => False)) (F0 m 10 ls []) := by
    clear hM hS
    intro n
    induction n with
    | zero => exact fun _ _ _ _ _ _ _ h => absurd h (by simp [sX2_sum_L10])
    | succ n ih =>
      intro G x1 x3 x4 H locs ls h hM hS hl
      rw [sX2_sum_L10] at h
      refine lv_iload hx hb dX2_sum_10 (lv_at hl 4 rfl) ?_
      refine lv_iload_n hx hb dX2_sum_12 rfl (lv_at hl 3 rfl) ?_
      refine lv_icmp_ge (tgt := 33) hx hb dX2_sum_13 (by decide) (fun c13 => ?_) (fun c13 => ?_)
      · replace h := ite_t h c13
        refine lv_iload_n hx hb dX2_sum_33 rfl (lv_at hl 1 rfl) ?_
        exact W.iret (v := x1) hx hb hr (fun t ht hW => ⟨⟨x1, (), rfl, Option.some.inj h, trivial⟩, hS.F ht⟩) hS.2.2 dX2_sum_34
      · replace h := ite_f h c13
        refine lv_aload_n hx hb dX2_sum_16 rfl (lv_at hl 2 rfl) ?_
        refine lv_iload hx hb dX2_sum_17 (lv_at hl 4 rfl) ?_
        obtain ⟨g19, h⟩ := grd_s h
        refine k_iald hx hb hK hM p1 ht1 g19 dX2_sum_19 ?_
        refine lv_istore (lv' := [(5, .int (G p1 x4.toNatClampNeg)), (0, .ref (q p1)), (1, .int x1), (2, .ref (q p1)), (3, .int x3), (4, .int x4)]) hx hb dX2_sum_20 hl (by decide) rfl (fun ls hl => ?_)
        refine lv_iload_n hx hb dX2_sum_22 rfl (lv_at hl 2 rfl) ?_
        refine lv_iload hx hb dX2_sum_23 (lv_at hl 0 rfl) ?_
        refine lv_iadd hx hb dX2_sum_25 ?_
        refine lv_istore_n (lv' := [(1, .int (x1 + (G p1 x4.toNatClampNeg))), (5, .int (G p1 x4.toNatClampNeg)), (0, .ref (q p1)), (2, .ref (q p1)), (3, .int x3), (4, .int x4)]) hx hb dX2_sum_26 rfl hl (by decide) rfl (fun ls hl => ?_)
        refine lv_iinc (v := (x4 + 1)) (lv' := [(4, .int (x4 + 1)), (1, .int (x1 + (G p1 x4.toNatClampNeg))), (5, .int (G p1 x4.toNatClampNeg)), (0, .ref (q p1)), (2, .ref (q p1)), (3, .int x3)]) hx hb dX2_sum_27 hl (k := 5) rfl (congrArg (fun z : Int32 => x4 + z) (show Int32.ofInt (1) = 1 by decide)) (by decide) rfl (fun ls hl => ?_)
        refine lv_goto (tgt := 10) hx hb dX2_sum_30 (by decide) ?_
        exact ih G (x1 + (G p1 x4.toNatClampNeg)) x3 (x4 + 1) _ _ _ h hM hS (lv_sub hl [3, 1, 4, 5, 0] rfl)
  subst hargs
  have hl := lv_entry ([.ref (q p1)]) (n := 6) (Nat.le_of_ble_eq_true rfl)
  rw [lg_entry_eq]
  generalize (lg_sl ([.ref (q p1)]) ++ List.replicate (6 - (lg_sl ([.ref (q p1)])).length) Slot.unset).toArray = ls at hl ⊢
  have hl : lv_has ls 6 [(0, .ref (q p1))] := hl
  have h := hs
  unfold sX2_sum at h
  have hM0 := hM
  refine lv_iconst (v := 0) hx hb dX2_sum_0 (by decide) ?_
  refine lv_istore_n (lv' := [(1, .int (0 : Int32)), (0, .ref (q p1))]) hx hb dX2_sum_1 rfl hl (by decide) rfl (fun ls hl => ?_)
  refine lv_aload_n hx hb dX2_sum_2 rfl (lv_at hl 1 rfl) ?_
  refine lv_astore_n (lv' := [(2, .ref (q p1)), (1, .int (0 : Int32)), (0, .ref (q p1))]) hx hb dX2_sum_3 rfl hl (by decide) rfl (fun ls hl => ?_)
  refine lv_aload_n hx hb dX2_sum_4 rfl (lv_at hl 0 rfl) ?_
  refine k_alen hx hb hK hM p1 ht1 dX2_sum_5 ?_
  refine lv_istore_n (lv' := [(3, .int (Int32.ofNat n1)), (2, .ref (q p1)), (1, .int (0 : Int32)), (0, .ref (q p1))]) hx hb dX2_sum_6 rfl hl (by decide) rfl (fun ls hl => ?_)
  refine lv_iconst (v := 0) hx hb dX2_sum_7 (by decide) ?_
  refine lv_istore (lv' := [(4, .int (0 : Int32)), (3, .int (Int32.ofNat n1)), (2, .ref (q p1)), (1, .int (0 : Int32)), (0, .ref (q p1))]) hx hb dX2_sum_8 hl (by decide) rfl (fun ls hl => ?_)
  exact L10 K G (0 : Int32) (Int32.ofNat n1) (0 : Int32) _ _ _ h hM hS (lv_sub hl [4, 3, 2, 1, 0] rfl)
set_option maxHeartbeats 4000000 in
set_option maxRecDepth 100000 in
theorem kX2_removeRejects (l : Launch) (D : va_G) (cI cR : ClassId) (q : Nat → Nat) (G : Nat → Nat → Int32) (K : Nat) (hJ : MJ tmC q) (r : (Int32 × (Nat → Nat → Int32))) (hs : sX2_removeRejects K G  = some r) : Met l yX2_removeRejects wsX2_removeRejects ({ frames := 1, cells := 0, slots := 0, locals := 25 } : Room) (mPre [.ref (q 1)] D cI cR q tmC G) (mIW D cI cR q tmC r) 0 0 (MA tmC q) := by
  refine Met.ofW (cc := cX2_removeRejects) (maxL := 3) (ret := (some .int)) (by decide) rfl ?_
  intro p e s m args below meth c s₁ B hml hv
  obtain ⟨hargs, hM, hK⟩ := hv
  have hx := B.exec
  have hb := B.bytes
  have hr := B.returns
  have hts := atoms_spec (ws := wsX2_removeRejects) B.pre
  have hown : s.vm.findClass RX2 = some m.cls := findClass_of_methodNamed B.named
  have hlocks := B.notSynchronized
  have hA : ∀ a, MA tmC q a → MA tmC q a := fun _ h => h
  have hS : va_S (MA tmC q) s.heap s.heap [] := va_S.rf
  have w0 := hts (Cond.fieldLink RX2 24 "CoinRails$State" "rejects" "[I") (List.mem_of_getElem? (i := 1) (by decide +kernel))
  have iX2 : ∀ w ∈ wsX20, w ∈ wsX2_removeRejects := fun _ h => List.mem_cons_of_mem _ (List.mem_append_right _ (h))
  have w2 := hts (Cond.fieldLink RX2 55 "CoinRails$State" "takenAway" "I") (List.mem_of_getElem? (i := 2) (by decide +kernel))
  have L10 : ∀ (n : Nat), ∀ (G1 : Nat → Nat → Int32) (x1 : Int32) (x2 : Int32) (H : Heap) (locs : List Loc) (ls : Array Slot), sX2_removeRejects_L10 K n G1 x1 x2 = some r → MW D cI cR q tmC G1 H → va_S (MA tmC q) s.heap H locs → lv_has ls 3 [(0, .ref (q 1)), (1, .int x1), (2, .int x2)] → W p l e (headSpec wsX2_removeRejects ({ frames := 1, cells := 0, slots := 0, locals := 25 } : Room)).room s m args below meth c H locs 0 0 (MQ below (mIW D cI cR q tmC r) args s 0 0 (MA tmC q)) (F0 m 10 ls []) := by
    clear hM hS
    intro n
    induction n with
    | zero => exact fun _ _ _ _ _ _ h => absurd h (by simp [sX2_removeRejects_L10])
    | succ n ih =>
      intro G1 x1 x2 H locs ls h hM hS hl
      rw [sX2_removeRejects_L10] at h
      refine lv_iload_n hx hb dX2_removeRejects_10 rfl (lv_at hl 2 rfl) ?_
      refine lv_bipush (v := 6) hx hb dX2_removeRejects_11 (by decide) ?_
      refine lv_icmp_ge (tgt := 29) hx hb dX2_removeRejects_13 (by decide) (fun c13 => ?_) (fun c13 => ?_)
      · replace h := ite_t h c13
        refine lv_aload_n hx hb dX2_removeRejects_29 rfl (lv_at hl 0 rfl) ?_
        refine lv_dup hx hb dX2_removeRejects_30 rfl ?_
        refine k_getI (C := RX2) (T := TX2) (N := 13) hx hb hts iX2 hown hK hM 1 rfl rfl 12 (by decide) rfl w2 (fun _ h9 => h9) dX2_removeRejects_31 ?_
        refine lv_iload_n hx hb dX2_removeRejects_34 rfl (lv_at hl 1 rfl) ?_
        refine lv_iadd hx hb dX2_removeRejects_35 ?_
        refine k_putI (C := RX2) (T := TX2) (N := 13) (v := ((G1 1 12) + x1)) hx hb hts iX2 tyX2 tyX2_ok nmX2 hown hK hM hJ hA hS 1 rfl rfl 12 (by decide) rfl w2 (fun _ h9 => h9) rfl (by decide +kernel) dX2_removeRejects_36 (fun H locs hM hS => ?_)
        obtain ⟨G38, eG38, h⟩ := olet_s h
        rw [eG38] at hM
        refine lv_iload_n hx hb dX2_removeRejects_39 rfl (lv_at hl 1 rfl) ?_
        have h := Option.some.inj h
        exact W.iret (v := x1) hx hb hr (fun t ht hW => ⟨⟨x1, (), rfl, p_fst h, w_end ht hM (p_snd h)⟩, hS.F ht⟩) hS.2.2 dX2_removeRejects_40
      · replace h := ite_f h c13
        refine lv_aload_n hx hb dX2_removeRejects_16 rfl (lv_at hl 0 rfl) ?_
        refine k_getR (C := RX2) (T := TX2) (N := 13) hx hb hts iX2 hown hK hM 1 rfl rfl 5 (by decide) rfl w0 (fun _ h9 => h9) dX2_removeRejects_17 ?_
        refine lv_iload_n hx hb dX2_removeRejects_20 rfl (lv_at hl 2 rfl) ?_
        refine lv_iconst (v := 0) hx hb dX2_removeRejects_21 (by decide) ?_
        obtain ⟨g22, h⟩ := grd_s h
        refine k_iast (v := (0 : Int32)) hx hb hK hM hJ hA hS 6 rfl g22 dX2_removeRejects_22 (fun H locs hM hS => ?_)
        obtain ⟨G24, eG24, h⟩ := olet_s h
        rw [eG24] at hM
        refine lv_iinc (v := (x2 + 1)) (lv' := [(2, .int (x2 + 1)), (0, .ref (q 1)), (1, .int x1)]) hx hb dX2_removeRejects_23 hl (k := 2) rfl (congrArg (fun z : Int32 => x2 + z) (show Int32.ofInt (1) = 1 by decide)) (by decide) rfl (fun ls hl => ?_)
        refine lv_goto (tgt := 10) hx hb dX2_removeRejects_26 (by decide) ?_
        exact ih G24 x1 (x2 + 1) _ _ _ h hM hS (lv_sub hl [1, 2, 0] rfl)
  subst hargs
  have hl := lv_entry ([.ref (q 1)]) (n := 3) (Nat.le_of_ble_eq_true rfl)
  rw [lg_entry_eq]
  generalize (lg_sl ([.ref (q 1)]) ++ List.replicate (3 - (lg_sl ([.ref (q 1)])).length) Slot.unset).toArray = ls at hl ⊢
  have hl : lv_has ls 3 [(0, .ref (q 1))] := hl
  have h := hs
  unfold sX2_removeRejects at h
  have hM0 := hM
  refine lv_aload_n hx hb dX2_removeRejects_0 rfl (lv_at hl 0 rfl) ?_
  refine k_getR (C := RX2) (T := TX2) (N := 13) hx hb hts iX2 hown hK hM 1 rfl rfl 5 (by decide) rfl w0 (fun _ h9 => h9) dX2_removeRejects_1 ?_
  obtain ⟨r4, e4, h⟩ := bind_s h
  refine k_cI (va_runS (As := [.ref (q 6)]) (rest := []) ⟨hx, hb, hml, hown, hts⟩ (kX2_sum l D cI cR q G K 6 6 rfl r4 e4) (va_cwS 1 hts gX2_removeRejects_X2_sum rfl rfl rfl (by decide +kernel) ⟨Nat.le_of_ble_eq_true rfl, Nat.le_of_ble_eq_true rfl⟩) (mPreS hK hM) rfl rfl hl.1 rfl (lv_room (Nat.le_of_ble_eq_true rfl)) dX2_removeRejects_4 ⟨Nat.le_of_ble_eq_true rfl, Nat.le_of_ble_eq_true rfl⟩) hS hM (fun H locs hM hS => ?_)
  refine lv_istore_n (lv' := [(1, .int r4), (0, .ref (q 1))]) hx hb dX2_removeRejects_7 rfl hl (by decide) rfl (fun ls hl => ?_)
  refine lv_iconst (v := 0) hx hb dX2_removeRejects_8 (by decide) ?_
  refine lv_istore_n (lv' := [(2, .int (0 : Int32)), (1, .int r4), (0, .ref (q 1))]) hx hb dX2_removeRejects_9 rfl hl (by decide) rfl (fun ls hl => ?_)
  exact L10 K G r4 (0 : Int32) _ _ _ h hM hS (lv_sub hl [2, 1, 0] rfl)
set_option maxHeartbeats 4000000 in
set_option maxRecDepth 100000 in
theorem kX2_coinsOfKind (l : Launch) (D : va_G) (cI cR : ClassId) (q : Nat → Nat) (G : Nat → Nat → Int32) (K : Nat) (p1 : Int32) (p2 : Int32) (r : Int32) (hs : sX2_coinsOfKind K G p1 p2 = some r) : Met l yX2_coinsOfKind wsX2_coinsOfKind ({ frames := 0, cells := 0, slots := 0, locals := 0 } : Room) (mPre [.ref (q 1), .int p1, .int p2] D cI cR q tmC G) (mI r) 0 0 (fun _ => False) := by
  refine Met.ofW (cc := cX2_coinsOfKind) (maxL := 3) (ret := (some .int)) (by decide) rfl ?_
  intro p e s m args below meth c s₁ B hml hv
  obtain ⟨hargs, hM, hK⟩ := hv
  have hx := B.exec
  have hb := B.bytes
  have hr := B.returns
  have hts := atoms_spec (ws := wsX2_coinsOfKind) B.pre
  have hown : s.vm.findClass RX2 = some m.cls := findClass_of_methodNamed B.named
  have hlocks := B.notSynchronized
  have hS : va_S (fun _ => False) s.heap s.heap [] := va_S.rf
  have w0 := hts (Cond.fieldLink RX2 42 "CoinRails$State" "bags" "[I") (List.mem_of_getElem? (i := 1) (by decide +kernel))
  have iX2 : ∀ w ∈ wsX20, w ∈ wsX2_coinsOfKind := fun _ h => List.mem_cons_of_mem _ (List.mem_append_right _ (h))
  subst hargs
  have hl := lv_entry ([.ref (q 1), .int p1, .int p2]) (n := 3) (Nat.le_of_ble_eq_true rfl)
  rw [lg_entry_eq]
  generalize (lg_sl ([.ref (q 1), .int p1, .int p2]) ++ List.replicate (3 - (lg_sl ([.ref (q 1), .int p1, .int p2])).length) Slot.unset).toArray = ls at hl ⊢
  have hl : lv_has ls 3 [(0, .ref (q 1)), (1, .int p1), (2, .int p2)] := hl
  have h := hs
  unfold sX2_coinsOfKind at h
  have hM0 := hM
  refine lv_aload_n hx hb dX2_coinsOfKind_0 rfl (lv_at hl 0 rfl) ?_
  refine k_getR (C := RX2) (T := TX2) (N := 13) hx hb hts iX2 hown hK hM 1 rfl rfl 11 (by decide) rfl w0 (fun _ h9 => h9) dX2_coinsOfKind_1 ?_
  refine lv_iload_n hx hb dX2_coinsOfKind_4 rfl (lv_at hl 1 rfl) ?_
  refine lv_bipush (v := 6) hx hb dX2_coinsOfKind_5 (by decide) ?_
  refine lv_imul hx hb dX2_coinsOfKind_7 ?_
  refine lv_iload_n hx hb dX2_coinsOfKind_8 rfl (lv_at hl 2 rfl) ?_
  refine lv_iadd hx hb dX2_coinsOfKind_9 ?_
  obtain ⟨g10, h⟩ := grd_s h
  refine k_iald hx hb hK hM 12 rfl g10 dX2_coinsOfKind_10 ?_
  exact W.iret (v := (G 12 ((p1 * (6 : Int32)) + p2).toNatClampNeg)) hx hb hr (fun t ht hW => ⟨⟨(G 12 ((p1 * (6 : Int32)) + p2).toNatClampNeg), (), rfl, Option.some.inj h, trivial⟩, hS.F ht⟩) hS.2.2 dX2_coinsOfKind_11
set_option maxHeartbeats 4000000 in
set_option maxRecDepth 100000 in
theorem kX2_coinsOfKindInBags (l : Launch) (D : va_G) (cI cR : ClassId) (q : Nat → Nat) (G : Nat → Nat → Int32) (K : Nat) (p1 : Int32) (r : Int32) (hs : sX2_coinsOfKindInBags K G p1 = some r) : Met l yX2_coinsOfKindInBags wsX2_coinsOfKindInBags ({ frames := 1, cells := 0, slots := 0, locals := 22 } : Room) (mPre [.ref (q 1), .int p1] D cI cR q tmC G) (mI r) 0 0 (fun _ => False) := by
  refine Met.ofW (cc := cX2_coinsOfKindInBags) (maxL := 4) (ret := (some .int)) (by decide) rfl ?_
  intro p e s m args below meth c s₁ B hml hv
  obtain ⟨hargs, hM, hK⟩ := hv
  have hx := B.exec
  have hb := B.bytes
  have hr := B.returns
  have hts := atoms_spec (ws := wsX2_coinsOfKindInBags) B.pre
  have hown : s.vm.findClass RX2 = some m.cls := findClass_of_methodNamed B.named
  have hlocks := B.notSynchronized
  have hS : va_S (fun _ => False) s.heap s.heap [] := va_S.rf
  have L4 : ∀ (n : Nat), ∀ (G : Nat → Nat → Int32) (x2 : Int32) (x3 : Int32) (H : Heap) (locs : List Loc) (ls : Array Slot), sX2_coinsOfKindInBags_L4 K G p1 n x2 x3 = some r → MW D cI cR q tmC G H → va_S (fun _ => False) s.heap H locs → lv_has ls 4 [(0, .ref (q 1)), (1, .int p1), (2, .int x2), (3, .int x3)] → W p l e (headSpec wsX2_coinsOfKindInBags ({ frames := 1, cells := 0, slots := 0, locals := 22 } : Room)).room s m args below meth c H locs 0 0 (MQ below (mI r) args s 0 0 (fun _ => False)) (F0 m 4 ls []) := by
    clear hM hS
    intro n
    induction n with
    | zero => exact fun _ _ _ _ _ _ h => absurd h (by simp [sX2_coinsOfKindInBags_L4])
    | succ n ih =>
      intro G x2 x3 H locs ls h hM hS hl
      rw [sX2_coinsOfKindInBags_L4] at h
      refine lv_iload_n hx hb dX2_coinsOfKindInBags_4 rfl (lv_at hl 3 rfl) ?_
      refine lv_bipush (v := 6) hx hb dX2_coinsOfKindInBags_5 (by decide) ?_
      refine lv_icmp_ge (tgt := 25) hx hb dX2_coinsOfKindInBags_7 (by decide) (fun c7 => ?_) (fun c7 => ?_)
      · replace h := ite_t h c7
        refine lv_iload_n hx hb dX2_coinsOfKindInBags_25 rfl (lv_at hl 2 rfl) ?_
        exact W.iret (v := x2) hx hb hr (fun t ht hW => ⟨⟨x2, (), rfl, Option.some.inj h, trivial⟩, hS.F ht⟩) hS.2.2 dX2_coinsOfKindInBags_26
      · replace h := ite_f h c7
        refine lv_iload_n hx hb dX2_coinsOfKindInBags_10 rfl (lv_at hl 2 rfl) ?_
        refine lv_aload_n hx hb dX2_coinsOfKindInBags_11 rfl (lv_at hl 0 rfl) ?_
        refine lv_iload_n hx hb dX2_coinsOfKindInBags_12 rfl (lv_at hl 3 rfl) ?_
        refine lv_iload_n hx hb dX2_coinsOfKindInBags_13 rfl (lv_at hl 1 rfl) ?_
        obtain ⟨r14, e14, h⟩ := bind_s h
        refine k_cI (va_runV (As := [.int x3, .int p1]) (rest := [.int x2]) ⟨hx, hb, hml, hown, hts⟩ (kX2_coinsOfKind l D cI cR q G K x3 p1 r14 e14) (cwV 2 hts gX2_coinsOfKindInBags_X2_coinsOfKind rfl rfl rfl (by decide +kernel) ⟨Nat.le_of_ble_eq_true rfl, Nat.le_of_ble_eq_true rfl⟩) (mPreV hK hM 1 rfl rfl) rfl rfl hl.1 rfl (lv_room (Nat.le_of_ble_eq_true rfl)) dX2_coinsOfKindInBags_14 ⟨Nat.le_of_ble_eq_true rfl, Nat.le_of_ble_eq_true rfl⟩) hS hM (fun H locs hM hS => ?_)
        refine lv_iadd hx hb dX2_coinsOfKindInBags_17 ?_
        refine lv_istore_n (lv' := [(2, .int (x2 + r14)), (0, .ref (q 1)), (1, .int p1), (3, .int x3)]) hx hb dX2_coinsOfKindInBags_18 rfl hl (by decide) rfl (fun ls hl => ?_)
        refine lv_iinc (v := (x3 + 1)) (lv' := [(3, .int (x3 + 1)), (2, .int (x2 + r14)), (0, .ref (q 1)), (1, .int p1)]) hx hb dX2_coinsOfKindInBags_19 hl (k := 3) rfl (congrArg (fun z : Int32 => x3 + z) (show Int32.ofInt (1) = 1 by decide)) (by decide) rfl (fun ls hl => ?_)
        refine lv_goto (tgt := 4) hx hb dX2_coinsOfKindInBags_22 (by decide) ?_
        exact ih G (x2 + r14) (x3 + 1) _ _ _ h hM hS (lv_sub hl [2, 3, 1, 0] rfl)
  subst hargs
  have hl := lv_entry ([.ref (q 1), .int p1]) (n := 4) (Nat.le_of_ble_eq_true rfl)
  rw [lg_entry_eq]
  generalize (lg_sl ([.ref (q 1), .int p1]) ++ List.replicate (4 - (lg_sl ([.ref (q 1), .int p1])).length) Slot.unset).toArray = ls at hl ⊢
  have hl : lv_has ls 4 [(0, .ref (q 1)), (1, .int p1)] := hl
  have h := hs
  unfold sX2_coinsOfKindInBags at h
  have hM0 := hM
  refine lv_iconst (v := 0) hx hb dX2_coinsOfKindInBags_0 (by decide) ?_
  refine lv_istore_n (lv' := [(2, .int (0 : Int32)), (0, .ref (q 1)), (1, .int p1)]) hx hb dX2_coinsOfKindInBags_1 rfl hl (by decide) rfl (fun ls hl => ?_)
  refine lv_iconst (v := 0) hx hb dX2_coinsOfKindInBags_2 (by decide) ?_
  refine lv_istore_n (lv' := [(3, .int (0 : Int32)), (2, .int (0 : Int32)), (0, .ref (q 1)), (1, .int p1)]) hx hb dX2_coinsOfKindInBags_3 rfl hl (by decide) rfl (fun ls hl => ?_)
  exact L4 K G (0 : Int32) (0 : Int32) _ _ _ h hM hS (lv_sub hl [2, 3, 1, 0] rfl)
set_option maxHeartbeats 4000000 in
set_option maxRecDepth 100000 in
theorem kX2_stuckOfKind (l : Launch) (D : va_G) (cI cR : ClassId) (q : Nat → Nat) (G : Nat → Nat → Int32) (K : Nat) (p1 : Int32) (r : Int32) (hs : sX2_stuckOfKind K G p1 = some r) : Met l yX2_stuckOfKind wsX2_stuckOfKind ({ frames := 0, cells := 0, slots := 0, locals := 0 } : Room) (mPre [.ref (q 1), .int p1] D cI cR q tmC G) (mI r) 0 0 (fun _ => False) := by
  refine Met.ofW (cc := cX2_stuckOfKind) (maxL := 4) (ret := (some .int)) (by decide) rfl ?_
  intro p e s m args below meth c s₁ B hml hv
  obtain ⟨hargs, hM, hK⟩ := hv
  have hx := B.exec
  have hb := B.bytes
  have hr := B.returns
  have hts := atoms_spec (ws := wsX2_stuckOfKind) B.pre
  have hown : s.vm.findClass RX2 = some m.cls := findClass_of_methodNamed B.named
  have hlocks := B.notSynchronized
  have hS : va_S (fun _ => False) s.heap s.heap [] := va_S.rf
  have w0 := hts (Cond.fieldLink RX2 33 "CoinRails$State" "stuckKind" "[I") (List.mem_of_getElem? (i := 1) (by decide +kernel))
  have iX2 : ∀ w ∈ wsX20, w ∈ wsX2_stuckOfKind := fun _ h => List.mem_cons_of_mem _ (List.mem_append_right _ (h))
  have L4 : ∀ (n : Nat), ∀ (G : Nat → Nat → Int32) (x2 : Int32) (x3 : Int32) (H : Heap) (locs : List Loc) (ls : Array Slot), sX2_stuckOfKind_L4 K G p1 n x2 x3 = some r → MW D cI cR q tmC G H → va_S (fun _ => False) s.heap H locs → lv_has ls 4 [(0, .ref (q 1)), (1, .int p1), (2, .int x2), (3, .int x3)] → W p l e (headSpec wsX2_stuckOfKind ({ frames := 0, cells := 0, slots := 0, locals := 0 } : Room)).room s m args below meth c H locs 0 0 (MQ below (mI r) args s 0 0 (fun _ => False)) (F0 m 4 ls []) := by
    clear hM hS
    intro n
    induction n with
    | zero => exact fun _ _ _ _ _ _ h => absurd h (by simp [sX2_stuckOfKind_L4])
    | succ n ih =>
      intro G x2 x3 H locs ls h hM hS hl
      rw [sX2_stuckOfKind_L4] at h
      refine lv_iload_n hx hb dX2_stuckOfKind_4 rfl (lv_at hl 3 rfl) ?_
      refine lv_bipush (v := 6) hx hb dX2_stuckOfKind_5 (by decide) ?_
      refine lv_icmp_ge (tgt := 29) hx hb dX2_stuckOfKind_7 (by decide) (fun c7 => ?_) (fun c7 => ?_)
      · replace h := ite_t h c7
        refine lv_iload_n hx hb dX2_stuckOfKind_29 rfl (lv_at hl 2 rfl) ?_
        exact W.iret (v := x2) hx hb hr (fun t ht hW => ⟨⟨x2, (), rfl, Option.some.inj h, trivial⟩, hS.F ht⟩) hS.2.2 dX2_stuckOfKind_30
      · replace h := ite_f h c7
        refine lv_aload_n hx hb dX2_stuckOfKind_10 rfl (lv_at hl 0 rfl) ?_
        refine k_getR (C := RX2) (T := TX2) (N := 13) hx hb hts iX2 hown hK hM 1 rfl rfl 8 (by decide) rfl w0 (fun _ h9 => h9) dX2_stuckOfKind_11 ?_
        refine lv_iload_n hx hb dX2_stuckOfKind_14 rfl (lv_at hl 3 rfl) ?_
        obtain ⟨g15, h⟩ := grd_s h
        refine k_iald hx hb hK hM 9 rfl g15 dX2_stuckOfKind_15 ?_
        refine lv_iload_n hx hb dX2_stuckOfKind_16 rfl (lv_at hl 1 rfl) ?_
        refine lv_icmp_ne (tgt := 23) hx hb dX2_stuckOfKind_17 (by decide) (fun c17 => ?_) (fun c17 => ?_)
        · replace h := ite_f h c17
          refine lv_iinc (v := (x3 + 1)) (lv' := [(3, .int (x3 + 1)), (0, .ref (q 1)), (1, .int p1), (2, .int x2)]) hx hb dX2_stuckOfKind_23 hl (k := 3) rfl (congrArg (fun z : Int32 => x3 + z) (show Int32.ofInt (1) = 1 by decide)) (by decide) rfl (fun ls hl => ?_)
          refine lv_goto (tgt := 4) hx hb dX2_stuckOfKind_26 (by decide) ?_
          exact ih G x2 (x3 + 1) _ _ _ h hM hS (lv_sub hl [1, 2, 3, 0] rfl)
        · replace h := ite_t h c17
          refine lv_iinc (v := (x2 + 1)) (lv' := [(2, .int (x2 + 1)), (0, .ref (q 1)), (1, .int p1), (3, .int x3)]) hx hb dX2_stuckOfKind_20 hl (k := 2) rfl (congrArg (fun z : Int32 => x2 + z) (show Int32.ofInt (1) = 1 by decide)) (by decide) rfl (fun ls hl => ?_)
          refine lv_iinc (v := (x3 + 1)) (lv' := [(3, .int (x3 + 1)), (2, .int (x2 + 1)), (0, .ref (q 1)), (1, .int p1)]) hx hb dX2_stuckOfKind_23 hl (k := 3) rfl (congrArg (fun z : Int32 => x3 + z) (show Int32.ofInt (1) = 1 by decide)) (by decide) rfl (fun ls hl => ?_)
          refine lv_goto (tgt := 4) hx hb dX2_stuckOfKind_26 (by decide) ?_
          exact ih G (x2 + 1) (x3 + 1) _ _ _ h hM hS (lv_sub hl [2, 3, 1, 0] rfl)
  subst hargs
  have hl := lv_entry ([.ref (q 1), .int p1]) (n := 4) (Nat.le_of_ble_eq_true rfl)
  rw [lg_entry_eq]
  generalize (lg_sl ([.ref (q 1), .int p1]) ++ List.replicate (4 - (lg_sl ([.ref (q 1), .int p1])).length) Slot.unset).toArray = ls at hl ⊢
  have hl : lv_has ls 4 [(0, .ref (q 1)), (1, .int p1)] := hl
  have h := hs
  unfold sX2_stuckOfKind at h
  have hM0 := hM
  refine lv_iconst (v := 0) hx hb dX2_stuckOfKind_0 (by decide) ?_
  refine lv_istore_n (lv' := [(2, .int (0 : Int32)), (0, .ref (q 1)), (1, .int p1)]) hx hb dX2_stuckOfKind_1 rfl hl (by decide) rfl (fun ls hl => ?_)
  refine lv_iconst (v := 0) hx hb dX2_stuckOfKind_2 (by decide) ?_
  refine lv_istore_n (lv' := [(3, .int (0 : Int32)), (2, .int (0 : Int32)), (0, .ref (q 1)), (1, .int p1)]) hx hb dX2_stuckOfKind_3 rfl hl (by decide) rfl (fun ls hl => ?_)
  exact L4 K G (0 : Int32) (0 : Int32) _ _ _ h hM hS (lv_sub hl [2, 3, 1, 0] rfl)
set_option maxHeartbeats 4000000 in
set_option maxRecDepth 100000 in
theorem kX2_aboutKind (l : Launch) (D : va_G) (cI cR : ClassId) (q : Nat → Nat) (G : Nat → Nat → Int32) (K : Nat) (p1 : Int32) (p2 : Int32) (r : Int32) (hs : sX2_aboutKind K G p1 p2 = some r) : Met l yX2_aboutKind wsX2_aboutKind ({ frames := 2, cells := 0, slots := 0, locals := 45 } : Room) (mPre [.ref (q 1), .int p1, .int p2] D cI cR q tmC G) (mI r) 0 0 (fun _ => False) := by
  refine Met.ofW (cc := cX2_aboutKind) (maxL := 3) (ret := (some .int)) (by decide) rfl ?_
  intro p e s m args below meth c s₁ B hml hv
  obtain ⟨hargs, hM, hK⟩ := hv
  have hx := B.exec
  have hb := B.bytes
  have hr := B.returns
  have hts := atoms_spec (ws := wsX2_aboutKind) B.pre
  have hown : s.vm.findClass RX2 = some m.cls := findClass_of_methodNamed B.named
  have hlocks := B.notSynchronized
  have hS : va_S (fun _ => False) s.heap s.heap [] := va_S.rf
  have w0 := hts (Cond.fieldLink RX2 9 "CoinRails$State" "diameter" "[I") (List.mem_of_getElem? (i := 1) (by decide +kernel))
  have iX2 : ∀ w ∈ wsX20, w ∈ wsX2_aboutKind := fun _ h => List.mem_cons_of_mem _ (List.mem_append_right _ (h))
  have w2 := hts (Cond.fieldLink RX2 15 "CoinRails$State" "worth" "[I") (List.mem_of_getElem? (i := 2) (by decide +kernel))
  have w3 := hts (Cond.fieldLink RX2 18 "CoinRails$State" "home" "[I") (List.mem_of_getElem? (i := 3) (by decide +kernel))
  have w4 := hts (Cond.fieldLink RX2 24 "CoinRails$State" "rejects" "[I") (List.mem_of_getElem? (i := 4) (by decide +kernel))
  have w5 := hts (Cond.fieldLink RX2 21 "CoinRails$State" "fed" "[I") (List.mem_of_getElem? (i := 5) (by decide +kernel))
  subst hargs
  have hl := lv_entry ([.ref (q 1), .int p1, .int p2]) (n := 3) (Nat.le_of_ble_eq_true rfl)
  rw [lg_entry_eq]
  generalize (lg_sl ([.ref (q 1), .int p1, .int p2]) ++ List.replicate (3 - (lg_sl ([.ref (q 1), .int p1, .int p2])).length) Slot.unset).toArray = ls at hl ⊢
  have hl : lv_has ls 3 [(0, .ref (q 1)), (1, .int p1), (2, .int p2)] := hl
  have h := hs
  unfold sX2_aboutKind at h
  have hM0 := hM
  refine lv_iload_n hx hb dX2_aboutKind_0 rfl (lv_at hl 2 rfl) ?_
  rcases Decidable.em (p2 = (0 : Int32)) with c1_0 | c1_0
  · replace h := ite_t h c1_0
    refine lv_tableIn (off := 39) (tgt := 40) hx hb dX2_aboutKind_1 (by rw [c1_0]; decide) (by rw [c1_0]; decide) (by rw [c1_0]; rfl) (by decide) ?_
    refine lv_aload_n hx hb dX2_aboutKind_40 rfl (lv_at hl 0 rfl) ?_
    refine k_getR (C := RX2) (T := TX2) (N := 13) hx hb hts iX2 hown hK hM 1 rfl rfl 1 (by decide) rfl w0 (fun _ h9 => h9) dX2_aboutKind_41 ?_
    refine lv_iload_n hx hb dX2_aboutKind_44 rfl (lv_at hl 1 rfl) ?_
    obtain ⟨g45, h⟩ := grd_s h
    refine k_iald hx hb hK hM 2 rfl g45 dX2_aboutKind_45 ?_
    exact W.iret (v := (G 2 p1.toNatClampNeg)) hx hb hr (fun t ht hW => ⟨⟨(G 2 p1.toNatClampNeg), (), rfl, Option.some.inj h, trivial⟩, hS.F ht⟩) hS.2.2 dX2_aboutKind_46
  · replace h := ite_f h c1_0
    rcases Decidable.em (p2 = (1 : Int32)) with c1_1 | c1_1
    · replace h := ite_t h c1_1
      refine lv_tableIn (off := 46) (tgt := 47) hx hb dX2_aboutKind_1 (by rw [c1_1]; decide) (by rw [c1_1]; decide) (by rw [c1_1]; rfl) (by decide) ?_
      refine lv_aload_n hx hb dX2_aboutKind_47 rfl (lv_at hl 0 rfl) ?_
      refine k_getR (C := RX2) (T := TX2) (N := 13) hx hb hts iX2 hown hK hM 1 rfl rfl 2 (by decide) rfl w2 (fun _ h9 => h9) dX2_aboutKind_48 ?_
      refine lv_iload_n hx hb dX2_aboutKind_51 rfl (lv_at hl 1 rfl) ?_
      obtain ⟨g52, h⟩ := grd_s h
      refine k_iald hx hb hK hM 3 rfl g52 dX2_aboutKind_52 ?_
      exact W.iret (v := (G 3 p1.toNatClampNeg)) hx hb hr (fun t ht hW => ⟨⟨(G 3 p1.toNatClampNeg), (), rfl, Option.some.inj h, trivial⟩, hS.F ht⟩) hS.2.2 dX2_aboutKind_53
    · replace h := ite_f h c1_1
      rcases Decidable.em (p2 = (2 : Int32)) with c1_2 | c1_2
      · replace h := ite_t h c1_2
        refine lv_tableIn (off := 53) (tgt := 54) hx hb dX2_aboutKind_1 (by rw [c1_2]; decide) (by rw [c1_2]; decide) (by rw [c1_2]; rfl) (by decide) ?_
        refine lv_aload_n hx hb dX2_aboutKind_54 rfl (lv_at hl 0 rfl) ?_
        refine k_getR (C := RX2) (T := TX2) (N := 13) hx hb hts iX2 hown hK hM 1 rfl rfl 3 (by decide) rfl w3 (fun _ h9 => h9) dX2_aboutKind_55 ?_
        refine lv_iload_n hx hb dX2_aboutKind_58 rfl (lv_at hl 1 rfl) ?_
        obtain ⟨g59, h⟩ := grd_s h
        refine k_iald hx hb hK hM 4 rfl g59 dX2_aboutKind_59 ?_
        exact W.iret (v := (G 4 p1.toNatClampNeg)) hx hb hr (fun t ht hW => ⟨⟨(G 4 p1.toNatClampNeg), (), rfl, Option.some.inj h, trivial⟩, hS.F ht⟩) hS.2.2 dX2_aboutKind_60
      · replace h := ite_f h c1_2
        rcases Decidable.em (p2 = (3 : Int32)) with c1_3 | c1_3
        · replace h := ite_t h c1_3
          refine lv_tableIn (off := 60) (tgt := 61) hx hb dX2_aboutKind_1 (by rw [c1_3]; decide) (by rw [c1_3]; decide) (by rw [c1_3]; rfl) (by decide) ?_
          refine lv_aload_n hx hb dX2_aboutKind_61 rfl (lv_at hl 0 rfl) ?_
          refine lv_iload_n hx hb dX2_aboutKind_62 rfl (lv_at hl 1 rfl) ?_
          obtain ⟨r63, e63, h⟩ := bind_s h
          refine k_cI (va_runV (As := [.int p1]) (rest := []) ⟨hx, hb, hml, hown, hts⟩ (kX2_coinsOfKindInBags l D cI cR q G K p1 r63 e63) (cwV 1 hts gX2_aboutKind_X2_coinsOfKindInBags rfl rfl rfl (by decide +kernel) ⟨Nat.le_of_ble_eq_true rfl, Nat.le_of_ble_eq_true rfl⟩) (mPreV hK hM 1 rfl rfl) rfl rfl hl.1 rfl (lv_room (Nat.le_of_ble_eq_true rfl)) dX2_aboutKind_63 ⟨Nat.le_of_ble_eq_true rfl, Nat.le_of_ble_eq_true rfl⟩) hS hM (fun H locs hM hS => ?_)
          exact W.iret (v := r63) hx hb hr (fun t ht hW => ⟨⟨r63, (), rfl, Option.some.inj h, trivial⟩, hS.F ht⟩) hS.2.2 dX2_aboutKind_66
        · replace h := ite_f h c1_3
          rcases Decidable.em (p2 = (4 : Int32)) with c1_4 | c1_4
          · replace h := ite_t h c1_4
            refine lv_tableIn (off := 66) (tgt := 67) hx hb dX2_aboutKind_1 (by rw [c1_4]; decide) (by rw [c1_4]; decide) (by rw [c1_4]; rfl) (by decide) ?_
            refine lv_aload_n hx hb dX2_aboutKind_67 rfl (lv_at hl 0 rfl) ?_
            refine lv_iload_n hx hb dX2_aboutKind_68 rfl (lv_at hl 1 rfl) ?_
            obtain ⟨r69, e69, h⟩ := bind_s h
            refine k_cI (va_runV (As := [.int p1]) (rest := []) ⟨hx, hb, hml, hown, hts⟩ (kX2_stuckOfKind l D cI cR q G K p1 r69 e69) (cwV 1 hts gX2_aboutKind_X2_stuckOfKind rfl rfl rfl (by decide +kernel) ⟨Nat.le_of_ble_eq_true rfl, Nat.le_of_ble_eq_true rfl⟩) (mPreV hK hM 1 rfl rfl) rfl rfl hl.1 rfl (lv_room (Nat.le_of_ble_eq_true rfl)) dX2_aboutKind_69 ⟨Nat.le_of_ble_eq_true rfl, Nat.le_of_ble_eq_true rfl⟩) hS hM (fun H locs hM hS => ?_)
            exact W.iret (v := r69) hx hb hr (fun t ht hW => ⟨⟨r69, (), rfl, Option.some.inj h, trivial⟩, hS.F ht⟩) hS.2.2 dX2_aboutKind_72
          · replace h := ite_f h c1_4
            rcases Decidable.em (p2 = (5 : Int32)) with c1_5 | c1_5
            · replace h := ite_t h c1_5
              refine lv_tableIn (off := 72) (tgt := 73) hx hb dX2_aboutKind_1 (by rw [c1_5]; decide) (by rw [c1_5]; decide) (by rw [c1_5]; rfl) (by decide) ?_
              refine lv_aload_n hx hb dX2_aboutKind_73 rfl (lv_at hl 0 rfl) ?_
              refine k_getR (C := RX2) (T := TX2) (N := 13) hx hb hts iX2 hown hK hM 1 rfl rfl 5 (by decide) rfl w4 (fun _ h9 => h9) dX2_aboutKind_74 ?_
              refine lv_iload_n hx hb dX2_aboutKind_77 rfl (lv_at hl 1 rfl) ?_
              obtain ⟨g78, h⟩ := grd_s h
              refine k_iald hx hb hK hM 6 rfl g78 dX2_aboutKind_78 ?_
              exact W.iret (v := (G 6 p1.toNatClampNeg)) hx hb hr (fun t ht hW => ⟨⟨(G 6 p1.toNatClampNeg), (), rfl, Option.some.inj h, trivial⟩, hS.F ht⟩) hS.2.2 dX2_aboutKind_79
            · replace h := ite_f h c1_5
              have e1_0 : (p2).toInt ≠ (0 : Int) := tsw_ne c1_0
              have e1_1 : (p2).toInt ≠ (1 : Int) := tsw_ne c1_1
              have e1_2 : (p2).toInt ≠ (2 : Int) := tsw_ne c1_2
              have e1_3 : (p2).toInt ≠ (3 : Int) := tsw_ne c1_3
              have e1_4 : (p2).toInt ≠ (4 : Int) := tsw_ne c1_4
              have e1_5 : (p2).toInt ≠ (5 : Int) := tsw_ne c1_5
              refine lv_tableOut (tgt := 80) hx hb dX2_aboutKind_1 (by omega) (by decide) ?_
              refine lv_aload_n hx hb dX2_aboutKind_80 rfl (lv_at hl 0 rfl) ?_
              refine k_getR (C := RX2) (T := TX2) (N := 13) hx hb hts iX2 hown hK hM 1 rfl rfl 4 (by decide) rfl w5 (fun _ h9 => h9) dX2_aboutKind_81 ?_
              refine lv_iload_n hx hb dX2_aboutKind_84 rfl (lv_at hl 1 rfl) ?_
              obtain ⟨g85, h⟩ := grd_s h
              refine k_iald hx hb hK hM 5 rfl g85 dX2_aboutKind_85 ?_
              exact W.iret (v := (G 5 p1.toNatClampNeg)) hx hb hr (fun t ht hW => ⟨⟨(G 5 p1.toNatClampNeg), (), rfl, Option.some.inj h, trivial⟩, hS.F ht⟩) hS.2.2 dX2_aboutKind_86
set_option maxHeartbeats 4000000 in
set_option maxRecDepth 100000 in
theorem kX2_kindOfRail (l : Launch) (D : va_G) (cI cR : ClassId) (q : Nat → Nat) (G : Nat → Nat → Int32) (K : Nat) (p1 : Int32) (r : Int32) (hs : sX2_kindOfRail K G p1 = some r) : Met l yX2_kindOfRail wsX2_kindOfRail ({ frames := 0, cells := 0, slots := 0, locals := 0 } : Room) (mPre [.ref (q 1), .int p1] D cI cR q tmC G) (mI r) 0 0 (fun _ => False) := by
  refine Met.ofW (cc := cX2_kindOfRail) (maxL := 3) (ret := (some .int)) (by decide) rfl ?_
  intro p e s m args below meth c s₁ B hml hv
  obtain ⟨hargs, hM, hK⟩ := hv
  have hx := B.exec
  have hb := B.bytes
  have hr := B.returns
  have hts := atoms_spec (ws := wsX2_kindOfRail) B.pre
  have hown : s.vm.findClass RX2 = some m.cls := findClass_of_methodNamed B.named
  have hlocks := B.notSynchronized
  have hS : va_S (fun _ => False) s.heap s.heap [] := va_S.rf
  have w0 := hts (Cond.fieldLink RX2 45 "CoinRails$State" "kinds" "I") (List.mem_of_getElem? (i := 1) (by decide +kernel))
  have iX2 : ∀ w ∈ wsX20, w ∈ wsX2_kindOfRail := fun _ h => List.mem_cons_of_mem _ (List.mem_append_right _ (h))
  have w2 := hts (Cond.fieldLink RX2 18 "CoinRails$State" "home" "[I") (List.mem_of_getElem? (i := 2) (by decide +kernel))
  have L2 : ∀ (n : Nat), ∀ (G : Nat → Nat → Int32) (x2 : Int32) (H : Heap) (locs : List Loc) (ls : Array Slot), sX2_kindOfRail_L2 K G p1 n x2 = some r → MW D cI cR q tmC G H → va_S (fun _ => False) s.heap H locs → lv_has ls 3 [(0, .ref (q 1)), (1, .int p1), (2, .int x2)] → W p l e (headSpec wsX2_kindOfRail ({ frames := 0, cells := 0, slots := 0, locals := 0 } : Room)).room s m args below meth c H locs 0 0 (MQ below (mI r) args s 0 0 (fun _ => False)) (F0 m 2 ls []) := by
    clear hM hS
    intro n
    induction n with
    | zero => exact fun _ _ _ _ _ h => absurd h (by simp [sX2_kindOfRail_L2])
    | succ n ih =>
      intro G x2 H locs ls h hM hS hl
      rw [sX2_kindOfRail_L2] at h
      refine lv_iload_n hx hb dX2_kindOfRail_2 rfl (lv_at hl 2 rfl) ?_
      refine lv_aload_n hx hb dX2_kindOfRail_3 rfl (lv_at hl 0 rfl) ?_
      refine k_getI (C := RX2) (T := TX2) (N := 13) hx hb hts iX2 hown hK hM 1 rfl rfl 0 (by decide) rfl w0 (fun _ h9 => h9) dX2_kindOfRail_4 ?_
      refine lv_icmp_ge (tgt := 28) hx hb dX2_kindOfRail_7 (by decide) (fun c7 => ?_) (fun c7 => ?_)
      · replace h := ite_t h c7
        refine lv_iconst (v := -1) hx hb dX2_kindOfRail_28 (by decide) ?_
        exact W.iret (v := (-1 : Int32)) hx hb hr (fun t ht hW => ⟨⟨(-1 : Int32), (), rfl, Option.some.inj h, trivial⟩, hS.F ht⟩) hS.2.2 dX2_kindOfRail_29
      · replace h := ite_f h c7
        refine lv_aload_n hx hb dX2_kindOfRail_10 rfl (lv_at hl 0 rfl) ?_
        refine k_getR (C := RX2) (T := TX2) (N := 13) hx hb hts iX2 hown hK hM 1 rfl rfl 3 (by decide) rfl w2 (fun _ h9 => h9) dX2_kindOfRail_11 ?_
        refine lv_iload_n hx hb dX2_kindOfRail_14 rfl (lv_at hl 2 rfl) ?_
        obtain ⟨g15, h⟩ := grd_s h
        refine k_iald hx hb hK hM 4 rfl g15 dX2_kindOfRail_15 ?_
        refine lv_iload_n hx hb dX2_kindOfRail_16 rfl (lv_at hl 1 rfl) ?_
        refine lv_icmp_ne (tgt := 22) hx hb dX2_kindOfRail_17 (by decide) (fun c17 => ?_) (fun c17 => ?_)
        · replace h := ite_f h c17
          refine lv_iinc (v := (x2 + 1)) (lv' := [(2, .int (x2 + 1)), (0, .ref (q 1)), (1, .int p1)]) hx hb dX2_kindOfRail_22 hl (k := 2) rfl (congrArg (fun z : Int32 => x2 + z) (show Int32.ofInt (1) = 1 by decide)) (by decide) rfl (fun ls hl => ?_)
          refine lv_goto (tgt := 2) hx hb dX2_kindOfRail_25 (by decide) ?_
          exact ih G (x2 + 1) _ _ _ h hM hS (lv_sub hl [1, 2, 0] rfl)
        · replace h := ite_t h c17
          refine lv_iload_n hx hb dX2_kindOfRail_20 rfl (lv_at hl 2 rfl) ?_
          exact W.iret (v := x2) hx hb hr (fun t ht hW => ⟨⟨x2, (), rfl, Option.some.inj h, trivial⟩, hS.F ht⟩) hS.2.2 dX2_kindOfRail_21
  subst hargs
  have hl := lv_entry ([.ref (q 1), .int p1]) (n := 3) (Nat.le_of_ble_eq_true rfl)
  rw [lg_entry_eq]
  generalize (lg_sl ([.ref (q 1), .int p1]) ++ List.replicate (3 - (lg_sl ([.ref (q 1), .int p1])).length) Slot.unset).toArray = ls at hl ⊢
  have hl : lv_has ls 3 [(0, .ref (q 1)), (1, .int p1)] := hl
  have h := hs
  unfold sX2_kindOfRail at h
  have hM0 := hM
  refine lv_iconst (v := 0) hx hb dX2_kindOfRail_0 (by decide) ?_
  refine lv_istore_n (lv' := [(2, .int (0 : Int32)), (0, .ref (q 1)), (1, .int p1)]) hx hb dX2_kindOfRail_1 rfl hl (by decide) rfl (fun ls hl => ?_)
  exact L2 K G (0 : Int32) _ _ _ h hM hS (lv_sub hl [1, 2, 0] rfl)
set_option maxHeartbeats 4000000 in
set_option maxRecDepth 100000 in
theorem kX2_supposedWorth (l : Launch) (D : va_G) (cI cR : ClassId) (q : Nat → Nat) (G : Nat → Nat → Int32) (K : Nat) (p1 : Int32) (r : Int32) (hs : sX2_supposedWorth K G p1 = some r) : Met l yX2_supposedWorth wsX2_supposedWorth ({ frames := 1, cells := 0, slots := 0, locals := 23 } : Room) (mPre [.ref (q 1), .int p1] D cI cR q tmC G) (mI r) 0 0 (fun _ => False) := by
  refine Met.ofW (cc := cX2_supposedWorth) (maxL := 3) (ret := (some .int)) (by decide) rfl ?_
  intro p e s m args below meth c s₁ B hml hv
  obtain ⟨hargs, hM, hK⟩ := hv
  have hx := B.exec
  have hb := B.bytes
  have hr := B.returns
  have hts := atoms_spec (ws := wsX2_supposedWorth) B.pre
  have hown : s.vm.findClass RX2 = some m.cls := findClass_of_methodNamed B.named
  have hlocks := B.notSynchronized
  have hS : va_S (fun _ => False) s.heap s.heap [] := va_S.rf
  have w0 := hts (Cond.fieldLink RX2 15 "CoinRails$State" "worth" "[I") (List.mem_of_getElem? (i := 1) (by decide +kernel))
  have iX2 : ∀ w ∈ wsX20, w ∈ wsX2_supposedWorth := fun _ h => List.mem_cons_of_mem _ (List.mem_append_right _ (h))
  subst hargs
  have hl := lv_entry ([.ref (q 1), .int p1]) (n := 3) (Nat.le_of_ble_eq_true rfl)
  rw [lg_entry_eq]
  generalize (lg_sl ([.ref (q 1), .int p1]) ++ List.replicate (3 - (lg_sl ([.ref (q 1), .int p1])).length) Slot.unset).toArray = ls at hl ⊢
  have hl : lv_has ls 3 [(0, .ref (q 1)), (1, .int p1)] := hl
  have h := hs
  unfold sX2_supposedWorth at h
  have hM0 := hM
  refine lv_aload_n hx hb dX2_supposedWorth_0 rfl (lv_at hl 0 rfl) ?_
  refine lv_iload_n hx hb dX2_supposedWorth_1 rfl (lv_at hl 1 rfl) ?_
  obtain ⟨r2, e2, h⟩ := bind_s h
  refine k_cI (va_runV (As := [.int p1]) (rest := []) ⟨hx, hb, hml, hown, hts⟩ (kX2_kindOfRail l D cI cR q G K p1 r2 e2) (cwV 1 hts gX2_supposedWorth_X2_kindOfRail rfl rfl rfl (by decide +kernel) ⟨Nat.le_of_ble_eq_true rfl, Nat.le_of_ble_eq_true rfl⟩) (mPreV hK hM 1 rfl rfl) rfl rfl hl.1 rfl (lv_room (Nat.le_of_ble_eq_true rfl)) dX2_supposedWorth_2 ⟨Nat.le_of_ble_eq_true rfl, Nat.le_of_ble_eq_true rfl⟩) hS hM (fun H locs hM hS => ?_)
  refine lv_istore_n (lv' := [(2, .int r2), (0, .ref (q 1)), (1, .int p1)]) hx hb dX2_supposedWorth_5 rfl hl (by decide) rfl (fun ls hl => ?_)
  refine lv_iload_n hx hb dX2_supposedWorth_6 rfl (lv_at hl 0 rfl) ?_
  refine lv_iconst (v := -1) hx hb dX2_supposedWorth_7 (by decide) ?_
  refine lv_icmp_ne (tgt := 15) hx hb dX2_supposedWorth_8 (by decide) (fun c8 => ?_) (fun c8 => ?_)
  · replace h := ite_f h c8
    refine lv_aload_n hx hb dX2_supposedWorth_15 rfl (lv_at hl 1 rfl) ?_
    refine lv_iload_n hx hb dX2_supposedWorth_16 rfl (lv_at hl 2 rfl) ?_
    obtain ⟨r17, e17, h⟩ := bind_s h
    refine k_cI (va_runV (As := [.int p1]) (rest := []) ⟨hx, hb, hml, hown, hts⟩ (kX2_coinsIn l D cI cR q G K p1 r17 e17) (cwV 1 hts gX2_supposedWorth_X2_coinsIn rfl rfl rfl (by decide +kernel) ⟨Nat.le_of_ble_eq_true rfl, Nat.le_of_ble_eq_true rfl⟩) (mPreV hK hM 1 rfl rfl) rfl rfl hl.1 rfl (lv_room (Nat.le_of_ble_eq_true rfl)) dX2_supposedWorth_17 ⟨Nat.le_of_ble_eq_true rfl, Nat.le_of_ble_eq_true rfl⟩) hS hM (fun H locs hM hS => ?_)
    refine lv_aload_n hx hb dX2_supposedWorth_20 rfl (lv_at hl 1 rfl) ?_
    refine k_getR (C := RX2) (T := TX2) (N := 13) hx hb hts iX2 hown hK hM 1 rfl rfl 2 (by decide) rfl w0 (fun _ h9 => h9) dX2_supposedWorth_21 ?_
    refine lv_iload_n hx hb dX2_supposedWorth_24 rfl (lv_at hl 0 rfl) ?_
    obtain ⟨g25, h⟩ := grd_s h
    refine k_iald hx hb hK hM 3 rfl g25 dX2_supposedWorth_25 ?_
    refine lv_imul hx hb dX2_supposedWorth_26 ?_
    exact W.iret (v := (r17 * (G 3 r2.toNatClampNeg))) hx hb hr (fun t ht hW => ⟨⟨(r17 * (G 3 r2.toNatClampNeg)), (), rfl, Option.some.inj h, trivial⟩, hS.F ht⟩) hS.2.2 dX2_supposedWorth_27
  · replace h := ite_t h c8
    refine lv_iconst (v := 0) hx hb dX2_supposedWorth_11 (by decide) ?_
    refine lv_goto (tgt := 27) hx hb dX2_supposedWorth_12 (by decide) ?_
    exact W.iret (v := (0 : Int32)) hx hb hr (fun t ht hW => ⟨⟨(0 : Int32), (), rfl, Option.some.inj h, trivial⟩, hS.F ht⟩) hS.2.2 dX2_supposedWorth_27
set_option maxHeartbeats 4000000 in
set_option maxRecDepth 100000 in
theorem kX2_trueWorth (l : Launch) (D : va_G) (cI cR : ClassId) (q : Nat → Nat) (G : Nat → Nat → Int32) (K : Nat) (p1 : Int32) (r : Int32) (hs : sX2_trueWorth K G p1 = some r) : Met l yX2_trueWorth wsX2_trueWorth ({ frames := 1, cells := 0, slots := 0, locals := 22 } : Room) (mPre [.ref (q 1), .int p1] D cI cR q tmC G) (mI r) 0 0 (fun _ => False) := by
  refine Met.ofW (cc := cX2_trueWorth) (maxL := 4) (ret := (some .int)) (by decide) rfl ?_
  intro p e s m args below meth c s₁ B hml hv
  obtain ⟨hargs, hM, hK⟩ := hv
  have hx := B.exec
  have hb := B.bytes
  have hr := B.returns
  have hts := atoms_spec (ws := wsX2_trueWorth) B.pre
  have hown : s.vm.findClass RX2 = some m.cls := findClass_of_methodNamed B.named
  have hlocks := B.notSynchronized
  have hS : va_S (fun _ => False) s.heap s.heap [] := va_S.rf
  have w0 := hts (Cond.fieldLink RX2 45 "CoinRails$State" "kinds" "I") (List.mem_of_getElem? (i := 1) (by decide +kernel))
  have iX2 : ∀ w ∈ wsX20, w ∈ wsX2_trueWorth := fun _ h => List.mem_cons_of_mem _ (List.mem_append_right _ (h))
  have w2 := hts (Cond.fieldLink RX2 15 "CoinRails$State" "worth" "[I") (List.mem_of_getElem? (i := 2) (by decide +kernel))
  have L4 : ∀ (n : Nat), ∀ (G : Nat → Nat → Int32) (x2 : Int32) (x3 : Int32) (H : Heap) (locs : List Loc) (ls : Array Slot), sX2_trueWorth_L4 K G p1 n x2 x3 = some r → MW D cI cR q tmC G H → va_S (fun _ => False) s.heap H locs → lv_has ls 4 [(0, .ref (q 1)), (1, .int p1), (2, .int x2), (3, .int x3)] → W p l e (headSpec wsX2_trueWorth ({ frames := 1, cells := 0, slots := 0, locals := 22 } : Room)).room s m args below meth c H locs 0 0 (MQ below (mI r) args s 0 0 (fun _ => False)) (F0 m 4 ls []) := by
    clear hM hS
    intro n
    induction n with
    | zero => exact fun _ _ _ _ _ _ h => absurd h (by simp [sX2_trueWorth_L4])
    | succ n ih =>
      intro G x2 x3 H locs ls h hM hS hl
      rw [sX2_trueWorth_L4] at h
      refine lv_iload_n hx hb dX2_trueWorth_4 rfl (lv_at hl 3 rfl) ?_
      refine lv_aload_n hx hb dX2_trueWorth_5 rfl (lv_at hl 0 rfl) ?_
      refine k_getI (C := RX2) (T := TX2) (N := 13) hx hb hts iX2 hown hK hM 1 rfl rfl 0 (by decide) rfl w0 (fun _ h9 => h9) dX2_trueWorth_6 ?_
      refine lv_icmp_ge (tgt := 34) hx hb dX2_trueWorth_9 (by decide) (fun c9 => ?_) (fun c9 => ?_)
      · replace h := ite_t h c9
        refine lv_iload_n hx hb dX2_trueWorth_34 rfl (lv_at hl 2 rfl) ?_
        exact W.iret (v := x2) hx hb hr (fun t ht hW => ⟨⟨x2, (), rfl, Option.some.inj h, trivial⟩, hS.F ht⟩) hS.2.2 dX2_trueWorth_35
      · replace h := ite_f h c9
        refine lv_iload_n hx hb dX2_trueWorth_12 rfl (lv_at hl 2 rfl) ?_
        refine lv_aload_n hx hb dX2_trueWorth_13 rfl (lv_at hl 0 rfl) ?_
        refine lv_iload_n hx hb dX2_trueWorth_14 rfl (lv_at hl 1 rfl) ?_
        refine lv_iload_n hx hb dX2_trueWorth_15 rfl (lv_at hl 3 rfl) ?_
        obtain ⟨r16, e16, h⟩ := bind_s h
        refine k_cI (va_runV (As := [.int p1, .int x3]) (rest := [.int x2]) ⟨hx, hb, hml, hown, hts⟩ (kX2_coinsOfKind l D cI cR q G K p1 x3 r16 e16) (cwV 2 hts gX2_trueWorth_X2_coinsOfKind rfl rfl rfl (by decide +kernel) ⟨Nat.le_of_ble_eq_true rfl, Nat.le_of_ble_eq_true rfl⟩) (mPreV hK hM 1 rfl rfl) rfl rfl hl.1 rfl (lv_room (Nat.le_of_ble_eq_true rfl)) dX2_trueWorth_16 ⟨Nat.le_of_ble_eq_true rfl, Nat.le_of_ble_eq_true rfl⟩) hS hM (fun H locs hM hS => ?_)
        refine lv_aload_n hx hb dX2_trueWorth_19 rfl (lv_at hl 0 rfl) ?_
        refine k_getR (C := RX2) (T := TX2) (N := 13) hx hb hts iX2 hown hK hM 1 rfl rfl 2 (by decide) rfl w2 (fun _ h9 => h9) dX2_trueWorth_20 ?_
        refine lv_iload_n hx hb dX2_trueWorth_23 rfl (lv_at hl 3 rfl) ?_
        obtain ⟨g24, h⟩ := grd_s h
        refine k_iald hx hb hK hM 3 rfl g24 dX2_trueWorth_24 ?_
        refine lv_imul hx hb dX2_trueWorth_25 ?_
        refine lv_iadd hx hb dX2_trueWorth_26 ?_
        refine lv_istore_n (lv' := [(2, .int (x2 + (r16 * (G 3 x3.toNatClampNeg)))), (0, .ref (q 1)), (1, .int p1), (3, .int x3)]) hx hb dX2_trueWorth_27 rfl hl (by decide) rfl (fun ls hl => ?_)
        refine lv_iinc (v := (x3 + 1)) (lv' := [(3, .int (x3 + 1)), (2, .int (x2 + (r16 * (G 3 x3.toNatClampNeg)))), (0, .ref (q 1)), (1, .int p1)]) hx hb dX2_trueWorth_28 hl (k := 3) rfl (congrArg (fun z : Int32 => x3 + z) (show Int32.ofInt (1) = 1 by decide)) (by decide) rfl (fun ls hl => ?_)
        refine lv_goto (tgt := 4) hx hb dX2_trueWorth_31 (by decide) ?_
        exact ih G (x2 + (r16 * (G 3 x3.toNatClampNeg))) (x3 + 1) _ _ _ h hM hS (lv_sub hl [2, 3, 1, 0] rfl)
  subst hargs
  have hl := lv_entry ([.ref (q 1), .int p1]) (n := 4) (Nat.le_of_ble_eq_true rfl)
  rw [lg_entry_eq]
  generalize (lg_sl ([.ref (q 1), .int p1]) ++ List.replicate (4 - (lg_sl ([.ref (q 1), .int p1])).length) Slot.unset).toArray = ls at hl ⊢
  have hl : lv_has ls 4 [(0, .ref (q 1)), (1, .int p1)] := hl
  have h := hs
  unfold sX2_trueWorth at h
  have hM0 := hM
  refine lv_iconst (v := 0) hx hb dX2_trueWorth_0 (by decide) ?_
  refine lv_istore_n (lv' := [(2, .int (0 : Int32)), (0, .ref (q 1)), (1, .int p1)]) hx hb dX2_trueWorth_1 rfl hl (by decide) rfl (fun ls hl => ?_)
  refine lv_iconst (v := 0) hx hb dX2_trueWorth_2 (by decide) ?_
  refine lv_istore_n (lv' := [(3, .int (0 : Int32)), (2, .int (0 : Int32)), (0, .ref (q 1)), (1, .int p1)]) hx hb dX2_trueWorth_3 rfl hl (by decide) rfl (fun ls hl => ?_)
  exact L4 K G (0 : Int32) (0 : Int32) _ _ _ h hM hS (lv_sub hl [2, 3, 1, 0] rfl)
set_option maxHeartbeats 4000000 in
set_option maxRecDepth 100000 in
theorem kX2_misfitsIn (l : Launch) (D : va_G) (cI cR : ClassId) (q : Nat → Nat) (G : Nat → Nat → Int32) (K : Nat) (p1 : Int32) (r : Int32) (hs : sX2_misfitsIn K G p1 = some r) : Met l yX2_misfitsIn wsX2_misfitsIn ({ frames := 1, cells := 0, slots := 0, locals := 22 } : Room) (mPre [.ref (q 1), .int p1] D cI cR q tmC G) (mI r) 0 0 (fun _ => False) := by
  refine Met.ofW (cc := cX2_misfitsIn) (maxL := 4) (ret := (some .int)) (by decide) rfl ?_
  intro p e s m args below meth c s₁ B hml hv
  obtain ⟨hargs, hM, hK⟩ := hv
  have hx := B.exec
  have hb := B.bytes
  have hr := B.returns
  have hts := atoms_spec (ws := wsX2_misfitsIn) B.pre
  have hown : s.vm.findClass RX2 = some m.cls := findClass_of_methodNamed B.named
  have hlocks := B.notSynchronized
  have hS : va_S (fun _ => False) s.heap s.heap [] := va_S.rf
  have w0 := hts (Cond.fieldLink RX2 45 "CoinRails$State" "kinds" "I") (List.mem_of_getElem? (i := 1) (by decide +kernel))
  have iX2 : ∀ w ∈ wsX20, w ∈ wsX2_misfitsIn := fun _ h => List.mem_cons_of_mem _ (List.mem_append_right _ (h))
  have w2 := hts (Cond.fieldLink RX2 18 "CoinRails$State" "home" "[I") (List.mem_of_getElem? (i := 2) (by decide +kernel))
  have L4 : ∀ (n : Nat), ∀ (G : Nat → Nat → Int32) (x2 : Int32) (x3 : Int32) (H : Heap) (locs : List Loc) (ls : Array Slot), sX2_misfitsIn_L4 K G p1 n x2 x3 = some r → MW D cI cR q tmC G H → va_S (fun _ => False) s.heap H locs → lv_has ls 4 [(0, .ref (q 1)), (1, .int p1), (2, .int x2), (3, .int x3)] → W p l e (headSpec wsX2_misfitsIn ({ frames := 1, cells := 0, slots := 0, locals := 22 } : Room)).room s m args below meth c H locs 0 0 (MQ below (mI r) args s 0 0 (fun _ => False)) (F0 m 4 ls []) := by
    clear hM hS
    intro n
    induction n with
    | zero => exact fun _ _ _ _ _ _ h => absurd h (by simp [sX2_misfitsIn_L4])
    | succ n ih =>
      intro G x2 x3 H locs ls h hM hS hl
      rw [sX2_misfitsIn_L4] at h
      refine lv_iload_n hx hb dX2_misfitsIn_4 rfl (lv_at hl 3 rfl) ?_
      refine lv_aload_n hx hb dX2_misfitsIn_5 rfl (lv_at hl 0 rfl) ?_
      refine k_getI (C := RX2) (T := TX2) (N := 13) hx hb hts iX2 hown hK hM 1 rfl rfl 0 (by decide) rfl w0 (fun _ h9 => h9) dX2_misfitsIn_6 ?_
      refine lv_icmp_ge (tgt := 37) hx hb dX2_misfitsIn_9 (by decide) (fun c9 => ?_) (fun c9 => ?_)
      · replace h := ite_t h c9
        refine lv_iload_n hx hb dX2_misfitsIn_37 rfl (lv_at hl 2 rfl) ?_
        exact W.iret (v := x2) hx hb hr (fun t ht hW => ⟨⟨x2, (), rfl, Option.some.inj h, trivial⟩, hS.F ht⟩) hS.2.2 dX2_misfitsIn_38
      · replace h := ite_f h c9
        refine lv_aload_n hx hb dX2_misfitsIn_12 rfl (lv_at hl 0 rfl) ?_
        refine k_getR (C := RX2) (T := TX2) (N := 13) hx hb hts iX2 hown hK hM 1 rfl rfl 3 (by decide) rfl w2 (fun _ h9 => h9) dX2_misfitsIn_13 ?_
        refine lv_iload_n hx hb dX2_misfitsIn_16 rfl (lv_at hl 3 rfl) ?_
        obtain ⟨g17, h⟩ := grd_s h
        refine k_iald hx hb hK hM 4 rfl g17 dX2_misfitsIn_17 ?_
        refine lv_iload_n hx hb dX2_misfitsIn_18 rfl (lv_at hl 1 rfl) ?_
        refine lv_icmp_eq (tgt := 31) hx hb dX2_misfitsIn_19 (by decide) (fun c19 => ?_) (fun c19 => ?_)
        · replace h := ite_t h c19
          refine lv_iinc (v := (x3 + 1)) (lv' := [(3, .int (x3 + 1)), (0, .ref (q 1)), (1, .int p1), (2, .int x2)]) hx hb dX2_misfitsIn_31 hl (k := 3) rfl (congrArg (fun z : Int32 => x3 + z) (show Int32.ofInt (1) = 1 by decide)) (by decide) rfl (fun ls hl => ?_)
          refine lv_goto (tgt := 4) hx hb dX2_misfitsIn_34 (by decide) ?_
          exact ih G x2 (x3 + 1) _ _ _ h hM hS (lv_sub hl [1, 2, 3, 0] rfl)
        · replace h := ite_f h c19
          refine lv_iload_n hx hb dX2_misfitsIn_22 rfl (lv_at hl 2 rfl) ?_
          refine lv_aload_n hx hb dX2_misfitsIn_23 rfl (lv_at hl 0 rfl) ?_
          refine lv_iload_n hx hb dX2_misfitsIn_24 rfl (lv_at hl 1 rfl) ?_
          refine lv_iload_n hx hb dX2_misfitsIn_25 rfl (lv_at hl 3 rfl) ?_
          obtain ⟨r26, e26, h⟩ := bind_s h
          refine k_cI (va_runV (As := [.int p1, .int x3]) (rest := [.int x2]) ⟨hx, hb, hml, hown, hts⟩ (kX2_coinsOfKind l D cI cR q G K p1 x3 r26 e26) (cwV 2 hts gX2_misfitsIn_X2_coinsOfKind rfl rfl rfl (by decide +kernel) ⟨Nat.le_of_ble_eq_true rfl, Nat.le_of_ble_eq_true rfl⟩) (mPreV hK hM 1 rfl rfl) rfl rfl hl.1 rfl (lv_room (Nat.le_of_ble_eq_true rfl)) dX2_misfitsIn_26 ⟨Nat.le_of_ble_eq_true rfl, Nat.le_of_ble_eq_true rfl⟩) hS hM (fun H locs hM hS => ?_)
          refine lv_iadd hx hb dX2_misfitsIn_29 ?_
          refine lv_istore_n (lv' := [(2, .int (x2 + r26)), (0, .ref (q 1)), (1, .int p1), (3, .int x3)]) hx hb dX2_misfitsIn_30 rfl hl (by decide) rfl (fun ls hl => ?_)
          refine lv_iinc (v := (x3 + 1)) (lv' := [(3, .int (x3 + 1)), (2, .int (x2 + r26)), (0, .ref (q 1)), (1, .int p1)]) hx hb dX2_misfitsIn_31 hl (k := 3) rfl (congrArg (fun z : Int32 => x3 + z) (show Int32.ofInt (1) = 1 by decide)) (by decide) rfl (fun ls hl => ?_)
          refine lv_goto (tgt := 4) hx hb dX2_misfitsIn_34 (by decide) ?_
          exact ih G (x2 + r26) (x3 + 1) _ _ _ h hM hS (lv_sub hl [2, 3, 1, 0] rfl)
  subst hargs
  have hl := lv_entry ([.ref (q 1), .int p1]) (n := 4) (Nat.le_of_ble_eq_true rfl)
  rw [lg_entry_eq]
  generalize (lg_sl ([.ref (q 1), .int p1]) ++ List.replicate (4 - (lg_sl ([.ref (q 1), .int p1])).length) Slot.unset).toArray = ls at hl ⊢
  have hl : lv_has ls 4 [(0, .ref (q 1)), (1, .int p1)] := hl
  have h := hs
  unfold sX2_misfitsIn at h
  have hM0 := hM
  refine lv_iconst (v := 0) hx hb dX2_misfitsIn_0 (by decide) ?_
  refine lv_istore_n (lv' := [(2, .int (0 : Int32)), (0, .ref (q 1)), (1, .int p1)]) hx hb dX2_misfitsIn_1 rfl hl (by decide) rfl (fun ls hl => ?_)
  refine lv_iconst (v := 0) hx hb dX2_misfitsIn_2 (by decide) ?_
  refine lv_istore_n (lv' := [(3, .int (0 : Int32)), (2, .int (0 : Int32)), (0, .ref (q 1)), (1, .int p1)]) hx hb dX2_misfitsIn_3 rfl hl (by decide) rfl (fun ls hl => ?_)
  exact L4 K G (0 : Int32) (0 : Int32) _ _ _ h hM hS (lv_sub hl [2, 3, 1, 0] rfl)
set_option maxHeartbeats 4000000 in
set_option maxRecDepth 100000 in
theorem kX2_aboutRail (l : Launch) (D : va_G) (cI cR : ClassId) (q : Nat → Nat) (G : Nat → Nat → Int32) (K : Nat) (p1 : Int32) (p2 : Int32) (r : Int32) (hs : sX2_aboutRail K G p1 p2 = some r) : Met l yX2_aboutRail wsX2_aboutRail ({ frames := 2, cells := 0, slots := 0, locals := 45 } : Room) (mPre [.ref (q 1), .int p1, .int p2] D cI cR q tmC G) (mI r) 0 0 (fun _ => False) := by
  refine Met.ofW (cc := cX2_aboutRail) (maxL := 3) (ret := (some .int)) (by decide) rfl ?_
  intro p e s m args below meth c s₁ B hml hv
  obtain ⟨hargs, hM, hK⟩ := hv
  have hx := B.exec
  have hb := B.bytes
  have hr := B.returns
  have hts := atoms_spec (ws := wsX2_aboutRail) B.pre
  have hown : s.vm.findClass RX2 = some m.cls := findClass_of_methodNamed B.named
  have hlocks := B.notSynchronized
  have hS : va_S (fun _ => False) s.heap s.heap [] := va_S.rf
  have w0 := hts (Cond.fieldLink RX2 27 "CoinRails$State" "gap" "[I") (List.mem_of_getElem? (i := 1) (by decide +kernel))
  have iX2 : ∀ w ∈ wsX20, w ∈ wsX2_aboutRail := fun _ h => List.mem_cons_of_mem _ (List.mem_append_right _ (h))
  have w2 := hts (Cond.fieldLink RX2 30 "CoinRails$State" "use" "[I") (List.mem_of_getElem? (i := 2) (by decide +kernel))
  have w3 := hts (Cond.fieldLink RX2 33 "CoinRails$State" "stuckKind" "[I") (List.mem_of_getElem? (i := 3) (by decide +kernel))
  have w4 := hts (Cond.fieldLink RX2 36 "CoinRails$State" "stuckWear" "[I") (List.mem_of_getElem? (i := 4) (by decide +kernel))
  have w5 := hts (Cond.fieldLink RX2 39 "CoinRails$State" "rolled" "[I") (List.mem_of_getElem? (i := 5) (by decide +kernel))
  subst hargs
  have hl := lv_entry ([.ref (q 1), .int p1, .int p2]) (n := 3) (Nat.le_of_ble_eq_true rfl)
  rw [lg_entry_eq]
  generalize (lg_sl ([.ref (q 1), .int p1, .int p2]) ++ List.replicate (3 - (lg_sl ([.ref (q 1), .int p1, .int p2])).length) Slot.unset).toArray = ls at hl ⊢
  have hl : lv_has ls 3 [(0, .ref (q 1)), (1, .int p1), (2, .int p2)] := hl
  have h := hs
  unfold sX2_aboutRail at h
  have hM0 := hM
  refine lv_iload_n hx hb dX2_aboutRail_0 rfl (lv_at hl 2 rfl) ?_
  rcases Decidable.em (p2 = (0 : Int32)) with c1_0 | c1_0
  · replace h := ite_t h c1_0
    refine lv_tableIn (off := 51) (tgt := 52) hx hb dX2_aboutRail_1 (by rw [c1_0]; decide) (by rw [c1_0]; decide) (by rw [c1_0]; rfl) (by decide) ?_
    refine lv_aload_n hx hb dX2_aboutRail_52 rfl (lv_at hl 0 rfl) ?_
    refine k_getR (C := RX2) (T := TX2) (N := 13) hx hb hts iX2 hown hK hM 1 rfl rfl 6 (by decide) rfl w0 (fun _ h9 => h9) dX2_aboutRail_53 ?_
    refine lv_iload_n hx hb dX2_aboutRail_56 rfl (lv_at hl 1 rfl) ?_
    obtain ⟨g57, h⟩ := grd_s h
    refine k_iald hx hb hK hM 7 rfl g57 dX2_aboutRail_57 ?_
    exact W.iret (v := (G 7 p1.toNatClampNeg)) hx hb hr (fun t ht hW => ⟨⟨(G 7 p1.toNatClampNeg), (), rfl, Option.some.inj h, trivial⟩, hS.F ht⟩) hS.2.2 dX2_aboutRail_58
  · replace h := ite_f h c1_0
    rcases Decidable.em (p2 = (1 : Int32)) with c1_1 | c1_1
    · replace h := ite_t h c1_1
      refine lv_tableIn (off := 58) (tgt := 59) hx hb dX2_aboutRail_1 (by rw [c1_1]; decide) (by rw [c1_1]; decide) (by rw [c1_1]; rfl) (by decide) ?_
      refine lv_aload_n hx hb dX2_aboutRail_59 rfl (lv_at hl 0 rfl) ?_
      refine k_getR (C := RX2) (T := TX2) (N := 13) hx hb hts iX2 hown hK hM 1 rfl rfl 7 (by decide) rfl w2 (fun _ h9 => h9) dX2_aboutRail_60 ?_
      refine lv_iload_n hx hb dX2_aboutRail_63 rfl (lv_at hl 1 rfl) ?_
      obtain ⟨g64, h⟩ := grd_s h
      refine k_iald hx hb hK hM 8 rfl g64 dX2_aboutRail_64 ?_
      exact W.iret (v := (G 8 p1.toNatClampNeg)) hx hb hr (fun t ht hW => ⟨⟨(G 8 p1.toNatClampNeg), (), rfl, Option.some.inj h, trivial⟩, hS.F ht⟩) hS.2.2 dX2_aboutRail_65
    · replace h := ite_f h c1_1
      rcases Decidable.em (p2 = (2 : Int32)) with c1_2 | c1_2
      · replace h := ite_t h c1_2
        refine lv_tableIn (off := 65) (tgt := 66) hx hb dX2_aboutRail_1 (by rw [c1_2]; decide) (by rw [c1_2]; decide) (by rw [c1_2]; rfl) (by decide) ?_
        refine lv_aload_n hx hb dX2_aboutRail_66 rfl (lv_at hl 0 rfl) ?_
        refine lv_iload_n hx hb dX2_aboutRail_67 rfl (lv_at hl 1 rfl) ?_
        obtain ⟨r68, e68, h⟩ := bind_s h
        refine k_cI (va_runV (As := [.int p1]) (rest := []) ⟨hx, hb, hml, hown, hts⟩ (kX2_coinsIn l D cI cR q G K p1 r68 e68) (cwV 1 hts gX2_aboutRail_X2_coinsIn rfl rfl rfl (by decide +kernel) ⟨Nat.le_of_ble_eq_true rfl, Nat.le_of_ble_eq_true rfl⟩) (mPreV hK hM 1 rfl rfl) rfl rfl hl.1 rfl (lv_room (Nat.le_of_ble_eq_true rfl)) dX2_aboutRail_68 ⟨Nat.le_of_ble_eq_true rfl, Nat.le_of_ble_eq_true rfl⟩) hS hM (fun H locs hM hS => ?_)
        exact W.iret (v := r68) hx hb hr (fun t ht hW => ⟨⟨r68, (), rfl, Option.some.inj h, trivial⟩, hS.F ht⟩) hS.2.2 dX2_aboutRail_71
      · replace h := ite_f h c1_2
        rcases Decidable.em (p2 = (3 : Int32)) with c1_3 | c1_3
        · replace h := ite_t h c1_3
          refine lv_tableIn (off := 71) (tgt := 72) hx hb dX2_aboutRail_1 (by rw [c1_3]; decide) (by rw [c1_3]; decide) (by rw [c1_3]; rfl) (by decide) ?_
          refine lv_aload_n hx hb dX2_aboutRail_72 rfl (lv_at hl 0 rfl) ?_
          refine k_getR (C := RX2) (T := TX2) (N := 13) hx hb hts iX2 hown hK hM 1 rfl rfl 8 (by decide) rfl w3 (fun _ h9 => h9) dX2_aboutRail_73 ?_
          refine lv_iload_n hx hb dX2_aboutRail_76 rfl (lv_at hl 1 rfl) ?_
          obtain ⟨g77, h⟩ := grd_s h
          refine k_iald hx hb hK hM 9 rfl g77 dX2_aboutRail_77 ?_
          exact W.iret (v := (G 9 p1.toNatClampNeg)) hx hb hr (fun t ht hW => ⟨⟨(G 9 p1.toNatClampNeg), (), rfl, Option.some.inj h, trivial⟩, hS.F ht⟩) hS.2.2 dX2_aboutRail_78
        · replace h := ite_f h c1_3
          rcases Decidable.em (p2 = (4 : Int32)) with c1_4 | c1_4
          · replace h := ite_t h c1_4
            refine lv_tableIn (off := 78) (tgt := 79) hx hb dX2_aboutRail_1 (by rw [c1_4]; decide) (by rw [c1_4]; decide) (by rw [c1_4]; rfl) (by decide) ?_
            refine lv_aload_n hx hb dX2_aboutRail_79 rfl (lv_at hl 0 rfl) ?_
            refine k_getR (C := RX2) (T := TX2) (N := 13) hx hb hts iX2 hown hK hM 1 rfl rfl 9 (by decide) rfl w4 (fun _ h9 => h9) dX2_aboutRail_80 ?_
            refine lv_iload_n hx hb dX2_aboutRail_83 rfl (lv_at hl 1 rfl) ?_
            obtain ⟨g84, h⟩ := grd_s h
            refine k_iald hx hb hK hM 10 rfl g84 dX2_aboutRail_84 ?_
            exact W.iret (v := (G 10 p1.toNatClampNeg)) hx hb hr (fun t ht hW => ⟨⟨(G 10 p1.toNatClampNeg), (), rfl, Option.some.inj h, trivial⟩, hS.F ht⟩) hS.2.2 dX2_aboutRail_85
          · replace h := ite_f h c1_4
            rcases Decidable.em (p2 = (5 : Int32)) with c1_5 | c1_5
            · replace h := ite_t h c1_5
              refine lv_tableIn (off := 85) (tgt := 86) hx hb dX2_aboutRail_1 (by rw [c1_5]; decide) (by rw [c1_5]; decide) (by rw [c1_5]; rfl) (by decide) ?_
              refine lv_aload_n hx hb dX2_aboutRail_86 rfl (lv_at hl 0 rfl) ?_
              refine lv_iload_n hx hb dX2_aboutRail_87 rfl (lv_at hl 1 rfl) ?_
              obtain ⟨r88, e88, h⟩ := bind_s h
              refine k_cI (va_runV (As := [.int p1]) (rest := []) ⟨hx, hb, hml, hown, hts⟩ (kX2_supposedWorth l D cI cR q G K p1 r88 e88) (cwV 1 hts gX2_aboutRail_X2_supposedWorth rfl rfl rfl (by decide +kernel) ⟨Nat.le_of_ble_eq_true rfl, Nat.le_of_ble_eq_true rfl⟩) (mPreV hK hM 1 rfl rfl) rfl rfl hl.1 rfl (lv_room (Nat.le_of_ble_eq_true rfl)) dX2_aboutRail_88 ⟨Nat.le_of_ble_eq_true rfl, Nat.le_of_ble_eq_true rfl⟩) hS hM (fun H locs hM hS => ?_)
              exact W.iret (v := r88) hx hb hr (fun t ht hW => ⟨⟨r88, (), rfl, Option.some.inj h, trivial⟩, hS.F ht⟩) hS.2.2 dX2_aboutRail_91
            · replace h := ite_f h c1_5
              rcases Decidable.em (p2 = (6 : Int32)) with c1_6 | c1_6
              · replace h := ite_t h c1_6
                refine lv_tableIn (off := 91) (tgt := 92) hx hb dX2_aboutRail_1 (by rw [c1_6]; decide) (by rw [c1_6]; decide) (by rw [c1_6]; rfl) (by decide) ?_
                refine lv_aload_n hx hb dX2_aboutRail_92 rfl (lv_at hl 0 rfl) ?_
                refine lv_iload_n hx hb dX2_aboutRail_93 rfl (lv_at hl 1 rfl) ?_
                obtain ⟨r94, e94, h⟩ := bind_s h
                refine k_cI (va_runV (As := [.int p1]) (rest := []) ⟨hx, hb, hml, hown, hts⟩ (kX2_trueWorth l D cI cR q G K p1 r94 e94) (cwV 1 hts gX2_aboutRail_X2_trueWorth rfl rfl rfl (by decide +kernel) ⟨Nat.le_of_ble_eq_true rfl, Nat.le_of_ble_eq_true rfl⟩) (mPreV hK hM 1 rfl rfl) rfl rfl hl.1 rfl (lv_room (Nat.le_of_ble_eq_true rfl)) dX2_aboutRail_94 ⟨Nat.le_of_ble_eq_true rfl, Nat.le_of_ble_eq_true rfl⟩) hS hM (fun H locs hM hS => ?_)
                exact W.iret (v := r94) hx hb hr (fun t ht hW => ⟨⟨r94, (), rfl, Option.some.inj h, trivial⟩, hS.F ht⟩) hS.2.2 dX2_aboutRail_97
              · replace h := ite_f h c1_6
                rcases Decidable.em (p2 = (7 : Int32)) with c1_7 | c1_7
                · replace h := ite_t h c1_7
                  refine lv_tableIn (off := 97) (tgt := 98) hx hb dX2_aboutRail_1 (by rw [c1_7]; decide) (by rw [c1_7]; decide) (by rw [c1_7]; rfl) (by decide) ?_
                  refine lv_aload_n hx hb dX2_aboutRail_98 rfl (lv_at hl 0 rfl) ?_
                  refine lv_iload_n hx hb dX2_aboutRail_99 rfl (lv_at hl 1 rfl) ?_
                  obtain ⟨r100, e100, h⟩ := bind_s h
                  refine k_cI (va_runV (As := [.int p1]) (rest := []) ⟨hx, hb, hml, hown, hts⟩ (kX2_misfitsIn l D cI cR q G K p1 r100 e100) (cwV 1 hts gX2_aboutRail_X2_misfitsIn rfl rfl rfl (by decide +kernel) ⟨Nat.le_of_ble_eq_true rfl, Nat.le_of_ble_eq_true rfl⟩) (mPreV hK hM 1 rfl rfl) rfl rfl hl.1 rfl (lv_room (Nat.le_of_ble_eq_true rfl)) dX2_aboutRail_100 ⟨Nat.le_of_ble_eq_true rfl, Nat.le_of_ble_eq_true rfl⟩) hS hM (fun H locs hM hS => ?_)
                  exact W.iret (v := r100) hx hb hr (fun t ht hW => ⟨⟨r100, (), rfl, Option.some.inj h, trivial⟩, hS.F ht⟩) hS.2.2 dX2_aboutRail_103
                · replace h := ite_f h c1_7
                  rcases Decidable.em (p2 = (8 : Int32)) with c1_8 | c1_8
                  · replace h := ite_t h c1_8
                    refine lv_tableIn (off := 103) (tgt := 104) hx hb dX2_aboutRail_1 (by rw [c1_8]; decide) (by rw [c1_8]; decide) (by rw [c1_8]; rfl) (by decide) ?_
                    refine lv_aload_n hx hb dX2_aboutRail_104 rfl (lv_at hl 0 rfl) ?_
                    refine lv_iload_n hx hb dX2_aboutRail_105 rfl (lv_at hl 1 rfl) ?_
                    obtain ⟨r106, e106, h⟩ := bind_s h
                    refine k_cI (va_runV (As := [.int p1]) (rest := []) ⟨hx, hb, hml, hown, hts⟩ (kX2_kindOfRail l D cI cR q G K p1 r106 e106) (cwV 1 hts gX2_aboutRail_X2_kindOfRail rfl rfl rfl (by decide +kernel) ⟨Nat.le_of_ble_eq_true rfl, Nat.le_of_ble_eq_true rfl⟩) (mPreV hK hM 1 rfl rfl) rfl rfl hl.1 rfl (lv_room (Nat.le_of_ble_eq_true rfl)) dX2_aboutRail_106 ⟨Nat.le_of_ble_eq_true rfl, Nat.le_of_ble_eq_true rfl⟩) hS hM (fun H locs hM hS => ?_)
                    exact W.iret (v := r106) hx hb hr (fun t ht hW => ⟨⟨r106, (), rfl, Option.some.inj h, trivial⟩, hS.F ht⟩) hS.2.2 dX2_aboutRail_109
                  · replace h := ite_f h c1_8
                    have e1_0 : (p2).toInt ≠ (0 : Int) := tsw_ne c1_0
                    have e1_1 : (p2).toInt ≠ (1 : Int) := tsw_ne c1_1
                    have e1_2 : (p2).toInt ≠ (2 : Int) := tsw_ne c1_2
                    have e1_3 : (p2).toInt ≠ (3 : Int) := tsw_ne c1_3
                    have e1_4 : (p2).toInt ≠ (4 : Int) := tsw_ne c1_4
                    have e1_5 : (p2).toInt ≠ (5 : Int) := tsw_ne c1_5
                    have e1_6 : (p2).toInt ≠ (6 : Int) := tsw_ne c1_6
                    have e1_7 : (p2).toInt ≠ (7 : Int) := tsw_ne c1_7
                    have e1_8 : (p2).toInt ≠ (8 : Int) := tsw_ne c1_8
                    refine lv_tableOut (tgt := 110) hx hb dX2_aboutRail_1 (by omega) (by decide) ?_
                    refine lv_aload_n hx hb dX2_aboutRail_110 rfl (lv_at hl 0 rfl) ?_
                    refine k_getR (C := RX2) (T := TX2) (N := 13) hx hb hts iX2 hown hK hM 1 rfl rfl 10 (by decide) rfl w5 (fun _ h9 => h9) dX2_aboutRail_111 ?_
                    refine lv_iload_n hx hb dX2_aboutRail_114 rfl (lv_at hl 1 rfl) ?_
                    obtain ⟨g115, h⟩ := grd_s h
                    refine k_iald hx hb hK hM 11 rfl g115 dX2_aboutRail_115 ?_
                    exact W.iret (v := (G 11 p1.toNatClampNeg)) hx hb hr (fun t ht hW => ⟨⟨(G 11 p1.toNatClampNeg), (), rfl, Option.some.inj h, trivial⟩, hS.F ht⟩) hS.2.2 dX2_aboutRail_116
set_option maxHeartbeats 4000000 in
set_option maxRecDepth 100000 in
theorem kX2_coinsInBags (l : Launch) (D : va_G) (cI cR : ClassId) (q : Nat → Nat) (G : Nat → Nat → Int32) (K : Nat) (r : Int32) (hs : sX2_coinsInBags K G  = some r) : Met l yX2_coinsInBags wsX2_coinsInBags ({ frames := 1, cells := 0, slots := 0, locals := 25 } : Room) (mPre [.ref (q 1)] D cI cR q tmC G) (mI r) 0 0 (fun _ => False) := by
  refine Met.ofW (cc := cX2_coinsInBags) (maxL := 1) (ret := (some .int)) (by decide) rfl ?_
  intro p e s m args below meth c s₁ B hml hv
  obtain ⟨hargs, hM, hK⟩ := hv
  have hx := B.exec
  have hb := B.bytes
  have hr := B.returns
  have hts := atoms_spec (ws := wsX2_coinsInBags) B.pre
  have hown : s.vm.findClass RX2 = some m.cls := findClass_of_methodNamed B.named
  have hlocks := B.notSynchronized
  have hS : va_S (fun _ => False) s.heap s.heap [] := va_S.rf
  have w0 := hts (Cond.fieldLink RX2 42 "CoinRails$State" "bags" "[I") (List.mem_of_getElem? (i := 1) (by decide +kernel))
  have iX2 : ∀ w ∈ wsX20, w ∈ wsX2_coinsInBags := fun _ h => List.mem_cons_of_mem _ (List.mem_append_right _ (h))
  subst hargs
  have hl := lv_entry ([.ref (q 1)]) (n := 1) (Nat.le_of_ble_eq_true rfl)
  rw [lg_entry_eq]
  generalize (lg_sl ([.ref (q 1)]) ++ List.replicate (1 - (lg_sl ([.ref (q 1)])).length) Slot.unset).toArray = ls at hl ⊢
  have hl : lv_has ls 1 [(0, .ref (q 1))] := hl
  have h := hs
  unfold sX2_coinsInBags at h
  have hM0 := hM
  refine lv_aload_n hx hb dX2_coinsInBags_0 rfl (lv_at hl 0 rfl) ?_
  refine k_getR (C := RX2) (T := TX2) (N := 13) hx hb hts iX2 hown hK hM 1 rfl rfl 11 (by decide) rfl w0 (fun _ h9 => h9) dX2_coinsInBags_1 ?_
  obtain ⟨r4, e4, h⟩ := bind_s h
  refine k_cI (va_runS (As := [.ref (q 12)]) (rest := []) ⟨hx, hb, hml, hown, hts⟩ (kX2_sum l D cI cR q G K 12 36 rfl r4 e4) (va_cwS 1 hts gX2_coinsInBags_X2_sum rfl rfl rfl (by decide +kernel) ⟨Nat.le_of_ble_eq_true rfl, Nat.le_of_ble_eq_true rfl⟩) (mPreS hK hM) rfl rfl hl.1 rfl (lv_room (Nat.le_of_ble_eq_true rfl)) dX2_coinsInBags_4 ⟨Nat.le_of_ble_eq_true rfl, Nat.le_of_ble_eq_true rfl⟩) hS hM (fun H locs hM hS => ?_)
  exact W.iret (v := r4) hx hb hr (fun t ht hW => ⟨⟨r4, (), rfl, Option.some.inj h, trivial⟩, hS.F ht⟩) hS.2.2 dX2_coinsInBags_7
set_option maxHeartbeats 4000000 in
set_option maxRecDepth 100000 in
theorem kX2_stuckRails (l : Launch) (D : va_G) (cI cR : ClassId) (q : Nat → Nat) (G : Nat → Nat → Int32) (K : Nat) (r : Int32) (hs : sX2_stuckRails K G  = some r) : Met l yX2_stuckRails wsX2_stuckRails ({ frames := 1, cells := 0, slots := 0, locals := 21 } : Room) (mPre [.ref (q 1)] D cI cR q tmC G) (mI r) 0 0 (fun _ => False) := by
  refine Met.ofW (cc := cX2_stuckRails) (maxL := 3) (ret := (some .int)) (by decide) rfl ?_
  intro p e s m args below meth c s₁ B hml hv
  obtain ⟨hargs, hM, hK⟩ := hv
  have hx := B.exec
  have hb := B.bytes
  have hr := B.returns
  have hts := atoms_spec (ws := wsX2_stuckRails) B.pre
  have hown : s.vm.findClass RX2 = some m.cls := findClass_of_methodNamed B.named
  have hlocks := B.notSynchronized
  have hS : va_S (fun _ => False) s.heap s.heap [] := va_S.rf
  have L4 : ∀ (n : Nat), ∀ (G : Nat → Nat → Int32) (x1 : Int32) (x2 : Int32) (H : Heap) (locs : List Loc) (ls : Array Slot), sX2_stuckRails_L4 K G n x1 x2 = some r → MW D cI cR q tmC G H → va_S (fun _ => False) s.heap H locs → lv_has ls 3 [(0, .ref (q 1)), (1, .int x1), (2, .int x2)] → W p l e (headSpec wsX2_stuckRails ({ frames := 1, cells := 0, slots := 0, locals := 21 } : Room)).room s m args below meth c H locs 0 0 (MQ below (mI r) args s 0 0 (fun _ => False)) (F0 m 4 ls []) := by
    clear hM hS
    intro n
    induction n with
    | zero => exact fun _ _ _ _ _ _ h => absurd h (by simp [sX2_stuckRails_L4])
    | succ n ih =>
      intro G x1 x2 H locs ls h hM hS hl
      rw [sX2_stuckRails_L4] at h
      refine lv_iload_n hx hb dX2_stuckRails_4 rfl (lv_at hl 2 rfl) ?_
      refine lv_bipush (v := 6) hx hb dX2_stuckRails_5 (by decide) ?_
      refine lv_icmp_ge (tgt := 27) hx hb dX2_stuckRails_7 (by decide) (fun c7 => ?_) (fun c7 => ?_)
      · replace h := ite_t h c7
        refine lv_iload_n hx hb dX2_stuckRails_27 rfl (lv_at hl 1 rfl) ?_
        exact W.iret (v := x1) hx hb hr (fun t ht hW => ⟨⟨x1, (), rfl, Option.some.inj h, trivial⟩, hS.F ht⟩) hS.2.2 dX2_stuckRails_28
      · replace h := ite_f h c7
        refine lv_aload_n hx hb dX2_stuckRails_10 rfl (lv_at hl 0 rfl) ?_
        refine lv_iload_n hx hb dX2_stuckRails_11 rfl (lv_at hl 2 rfl) ?_
        obtain ⟨r12, e12, h⟩ := bind_s h
        refine k_cI (va_runV (As := [.int x2]) (rest := []) ⟨hx, hb, hml, hown, hts⟩ (kX2_isStuck l D cI cR q G K x2 r12 e12) (cwV 1 hts gX2_stuckRails_X2_isStuck rfl rfl rfl (by decide +kernel) ⟨Nat.le_of_ble_eq_true rfl, Nat.le_of_ble_eq_true rfl⟩) (mPreV hK hM 1 rfl rfl) rfl rfl hl.1 rfl (lv_room (Nat.le_of_ble_eq_true rfl)) dX2_stuckRails_12 ⟨Nat.le_of_ble_eq_true rfl, Nat.le_of_ble_eq_true rfl⟩) hS hM (fun H locs hM hS => ?_)
        refine lv_if_eq (tgt := 21) hx hb dX2_stuckRails_15 (by decide) (fun c15 => ?_) (fun c15 => ?_)
        · replace h := ite_t h c15
          refine lv_iinc (v := (x2 + 1)) (lv' := [(2, .int (x2 + 1)), (0, .ref (q 1)), (1, .int x1)]) hx hb dX2_stuckRails_21 hl (k := 2) rfl (congrArg (fun z : Int32 => x2 + z) (show Int32.ofInt (1) = 1 by decide)) (by decide) rfl (fun ls hl => ?_)
          refine lv_goto (tgt := 4) hx hb dX2_stuckRails_24 (by decide) ?_
          exact ih G x1 (x2 + 1) _ _ _ h hM hS (lv_sub hl [1, 2, 0] rfl)
        · replace h := ite_f h c15
          refine lv_iinc (v := (x1 + 1)) (lv' := [(1, .int (x1 + 1)), (0, .ref (q 1)), (2, .int x2)]) hx hb dX2_stuckRails_18 hl (k := 1) rfl (congrArg (fun z : Int32 => x1 + z) (show Int32.ofInt (1) = 1 by decide)) (by decide) rfl (fun ls hl => ?_)
          refine lv_iinc (v := (x2 + 1)) (lv' := [(2, .int (x2 + 1)), (1, .int (x1 + 1)), (0, .ref (q 1))]) hx hb dX2_stuckRails_21 hl (k := 2) rfl (congrArg (fun z : Int32 => x2 + z) (show Int32.ofInt (1) = 1 by decide)) (by decide) rfl (fun ls hl => ?_)
          refine lv_goto (tgt := 4) hx hb dX2_stuckRails_24 (by decide) ?_
          exact ih G (x1 + 1) (x2 + 1) _ _ _ h hM hS (lv_sub hl [2, 1, 0] rfl)
  subst hargs
  have hl := lv_entry ([.ref (q 1)]) (n := 3) (Nat.le_of_ble_eq_true rfl)
  rw [lg_entry_eq]
  generalize (lg_sl ([.ref (q 1)]) ++ List.replicate (3 - (lg_sl ([.ref (q 1)])).length) Slot.unset).toArray = ls at hl ⊢
  have hl : lv_has ls 3 [(0, .ref (q 1))] := hl
  have h := hs
  unfold sX2_stuckRails at h
  have hM0 := hM
  refine lv_iconst (v := 0) hx hb dX2_stuckRails_0 (by decide) ?_
  refine lv_istore_n (lv' := [(1, .int (0 : Int32)), (0, .ref (q 1))]) hx hb dX2_stuckRails_1 rfl hl (by decide) rfl (fun ls hl => ?_)
  refine lv_iconst (v := 0) hx hb dX2_stuckRails_2 (by decide) ?_
  refine lv_istore_n (lv' := [(2, .int (0 : Int32)), (1, .int (0 : Int32)), (0, .ref (q 1))]) hx hb dX2_stuckRails_3 rfl hl (by decide) rfl (fun ls hl => ?_)
  exact L4 K G (0 : Int32) (0 : Int32) _ _ _ h hM hS (lv_sub hl [2, 1, 0] rfl)
set_option maxHeartbeats 4000000 in
set_option maxRecDepth 100000 in
theorem kX2_misfits (l : Launch) (D : va_G) (cI cR : ClassId) (q : Nat → Nat) (G : Nat → Nat → Int32) (K : Nat) (r : Int32) (hs : sX2_misfits K G  = some r) : Met l yX2_misfits wsX2_misfits ({ frames := 2, cells := 0, slots := 0, locals := 45 } : Room) (mPre [.ref (q 1)] D cI cR q tmC G) (mI r) 0 0 (fun _ => False) := by
  refine Met.ofW (cc := cX2_misfits) (maxL := 3) (ret := (some .int)) (by decide) rfl ?_
  intro p e s m args below meth c s₁ B hml hv
  obtain ⟨hargs, hM, hK⟩ := hv
  have hx := B.exec
  have hb := B.bytes
  have hr := B.returns
  have hts := atoms_spec (ws := wsX2_misfits) B.pre
  have hown : s.vm.findClass RX2 = some m.cls := findClass_of_methodNamed B.named
  have hlocks := B.notSynchronized
  have hS : va_S (fun _ => False) s.heap s.heap [] := va_S.rf
  have L4 : ∀ (n : Nat), ∀ (G : Nat → Nat → Int32) (x1 : Int32) (x2 : Int32) (H : Heap) (locs : List Loc) (ls : Array Slot), sX2_misfits_L4 K G n x1 x2 = some r → MW D cI cR q tmC G H → va_S (fun _ => False) s.heap H locs → lv_has ls 3 [(0, .ref (q 1)), (1, .int x1), (2, .int x2)] → W p l e (headSpec wsX2_misfits ({ frames := 2, cells := 0, slots := 0, locals := 45 } : Room)).room s m args below meth c H locs 0 0 (MQ below (mI r) args s 0 0 (fun _ => False)) (F0 m 4 ls []) := by
    clear hM hS
    intro n
    induction n with
    | zero => exact fun _ _ _ _ _ _ h => absurd h (by simp [sX2_misfits_L4])
    | succ n ih =>
      intro G x1 x2 H locs ls h hM hS hl
      rw [sX2_misfits_L4] at h
      refine lv_iload_n hx hb dX2_misfits_4 rfl (lv_at hl 2 rfl) ?_
      refine lv_bipush (v := 6) hx hb dX2_misfits_5 (by decide) ?_
      refine lv_icmp_ge (tgt := 24) hx hb dX2_misfits_7 (by decide) (fun c7 => ?_) (fun c7 => ?_)
      · replace h := ite_t h c7
        refine lv_iload_n hx hb dX2_misfits_24 rfl (lv_at hl 1 rfl) ?_
        exact W.iret (v := x1) hx hb hr (fun t ht hW => ⟨⟨x1, (), rfl, Option.some.inj h, trivial⟩, hS.F ht⟩) hS.2.2 dX2_misfits_25
      · replace h := ite_f h c7
        refine lv_iload_n hx hb dX2_misfits_10 rfl (lv_at hl 1 rfl) ?_
        refine lv_aload_n hx hb dX2_misfits_11 rfl (lv_at hl 0 rfl) ?_
        refine lv_iload_n hx hb dX2_misfits_12 rfl (lv_at hl 2 rfl) ?_
        obtain ⟨r13, e13, h⟩ := bind_s h
        refine k_cI (va_runV (As := [.int x2]) (rest := [.int x1]) ⟨hx, hb, hml, hown, hts⟩ (kX2_misfitsIn l D cI cR q G K x2 r13 e13) (cwV 1 hts gX2_misfits_X2_misfitsIn rfl rfl rfl (by decide +kernel) ⟨Nat.le_of_ble_eq_true rfl, Nat.le_of_ble_eq_true rfl⟩) (mPreV hK hM 1 rfl rfl) rfl rfl hl.1 rfl (lv_room (Nat.le_of_ble_eq_true rfl)) dX2_misfits_13 ⟨Nat.le_of_ble_eq_true rfl, Nat.le_of_ble_eq_true rfl⟩) hS hM (fun H locs hM hS => ?_)
        refine lv_iadd hx hb dX2_misfits_16 ?_
        refine lv_istore_n (lv' := [(1, .int (x1 + r13)), (0, .ref (q 1)), (2, .int x2)]) hx hb dX2_misfits_17 rfl hl (by decide) rfl (fun ls hl => ?_)
        refine lv_iinc (v := (x2 + 1)) (lv' := [(2, .int (x2 + 1)), (1, .int (x1 + r13)), (0, .ref (q 1))]) hx hb dX2_misfits_18 hl (k := 2) rfl (congrArg (fun z : Int32 => x2 + z) (show Int32.ofInt (1) = 1 by decide)) (by decide) rfl (fun ls hl => ?_)
        refine lv_goto (tgt := 4) hx hb dX2_misfits_21 (by decide) ?_
        exact ih G (x1 + r13) (x2 + 1) _ _ _ h hM hS (lv_sub hl [2, 1, 0] rfl)
  subst hargs
  have hl := lv_entry ([.ref (q 1)]) (n := 3) (Nat.le_of_ble_eq_true rfl)
  rw [lg_entry_eq]
  generalize (lg_sl ([.ref (q 1)]) ++ List.replicate (3 - (lg_sl ([.ref (q 1)])).length) Slot.unset).toArray = ls at hl ⊢
  have hl : lv_has ls 3 [(0, .ref (q 1))] := hl
  have h := hs
  unfold sX2_misfits at h
  have hM0 := hM
  refine lv_iconst (v := 0) hx hb dX2_misfits_0 (by decide) ?_
  refine lv_istore_n (lv' := [(1, .int (0 : Int32)), (0, .ref (q 1))]) hx hb dX2_misfits_1 rfl hl (by decide) rfl (fun ls hl => ?_)
  refine lv_iconst (v := 0) hx hb dX2_misfits_2 (by decide) ?_
  refine lv_istore_n (lv' := [(2, .int (0 : Int32)), (1, .int (0 : Int32)), (0, .ref (q 1))]) hx hb dX2_misfits_3 rfl hl (by decide) rfl (fun ls hl => ?_)
  exact L4 K G (0 : Int32) (0 : Int32) _ _ _ h hM hS (lv_sub hl [2, 1, 0] rfl)
set_option maxHeartbeats 4000000 in
set_option maxRecDepth 100000 in
theorem kX2_supposedWorthOfAll (l : Launch) (D : va_G) (cI cR : ClassId) (q : Nat → Nat) (G : Nat → Nat → Int32) (K : Nat) (r : Int32) (hs : sX2_supposedWorthOfAll K G  = some r) : Met l yX2_supposedWorthOfAll wsX2_supposedWorthOfAll ({ frames := 2, cells := 0, slots := 0, locals := 45 } : Room) (mPre [.ref (q 1)] D cI cR q tmC G) (mI r) 0 0 (fun _ => False) := by
  refine Met.ofW (cc := cX2_supposedWorthOfAll) (maxL := 3) (ret := (some .int)) (by decide) rfl ?_
  intro p e s m args below meth c s₁ B hml hv
  obtain ⟨hargs, hM, hK⟩ := hv
  have hx := B.exec
  have hb := B.bytes
  have hr := B.returns
  have hts := atoms_spec (ws := wsX2_supposedWorthOfAll) B.pre
  have hown : s.vm.findClass RX2 = some m.cls := findClass_of_methodNamed B.named
  have hlocks := B.notSynchronized
  have hS : va_S (fun _ => False) s.heap s.heap [] := va_S.rf
  have L4 : ∀ (n : Nat), ∀ (G : Nat → Nat → Int32) (x1 : Int32) (x2 : Int32) (H : Heap) (locs : List Loc) (ls : Array Slot), sX2_supposedWorthOfAll_L4 K G n x1 x2 = some r → MW D cI cR q tmC G H → va_S (fun _ => False) s.heap H locs → lv_has ls 3 [(0, .ref (q 1)), (1, .int x1), (2, .int x2)] → W p l e (headSpec wsX2_supposedWorthOfAll ({ frames := 2, cells := 0, slots := 0, locals := 45 } : Room)).room s m args below meth c H locs 0 0 (MQ below (mI r) args s 0 0 (fun _ => False)) (F0 m 4 ls []) := by
    clear hM hS
    intro n
    induction n with
    | zero => exact fun _ _ _ _ _ _ h => absurd h (by simp [sX2_supposedWorthOfAll_L4])
    | succ n ih =>
      intro G x1 x2 H locs ls h hM hS hl
      rw [sX2_supposedWorthOfAll_L4] at h
      refine lv_iload_n hx hb dX2_supposedWorthOfAll_4 rfl (lv_at hl 2 rfl) ?_
      refine lv_bipush (v := 6) hx hb dX2_supposedWorthOfAll_5 (by decide) ?_
      refine lv_icmp_ge (tgt := 24) hx hb dX2_supposedWorthOfAll_7 (by decide) (fun c7 => ?_) (fun c7 => ?_)
      · replace h := ite_t h c7
        refine lv_iload_n hx hb dX2_supposedWorthOfAll_24 rfl (lv_at hl 1 rfl) ?_
        exact W.iret (v := x1) hx hb hr (fun t ht hW => ⟨⟨x1, (), rfl, Option.some.inj h, trivial⟩, hS.F ht⟩) hS.2.2 dX2_supposedWorthOfAll_25
      · replace h := ite_f h c7
        refine lv_iload_n hx hb dX2_supposedWorthOfAll_10 rfl (lv_at hl 1 rfl) ?_
        refine lv_aload_n hx hb dX2_supposedWorthOfAll_11 rfl (lv_at hl 0 rfl) ?_
        refine lv_iload_n hx hb dX2_supposedWorthOfAll_12 rfl (lv_at hl 2 rfl) ?_
        obtain ⟨r13, e13, h⟩ := bind_s h
        refine k_cI (va_runV (As := [.int x2]) (rest := [.int x1]) ⟨hx, hb, hml, hown, hts⟩ (kX2_supposedWorth l D cI cR q G K x2 r13 e13) (cwV 1 hts gX2_supposedWorthOfAll_X2_supposedWorth rfl rfl rfl (by decide +kernel) ⟨Nat.le_of_ble_eq_true rfl, Nat.le_of_ble_eq_true rfl⟩) (mPreV hK hM 1 rfl rfl) rfl rfl hl.1 rfl (lv_room (Nat.le_of_ble_eq_true rfl)) dX2_supposedWorthOfAll_13 ⟨Nat.le_of_ble_eq_true rfl, Nat.le_of_ble_eq_true rfl⟩) hS hM (fun H locs hM hS => ?_)
        refine lv_iadd hx hb dX2_supposedWorthOfAll_16 ?_
        refine lv_istore_n (lv' := [(1, .int (x1 + r13)), (0, .ref (q 1)), (2, .int x2)]) hx hb dX2_supposedWorthOfAll_17 rfl hl (by decide) rfl (fun ls hl => ?_)
        refine lv_iinc (v := (x2 + 1)) (lv' := [(2, .int (x2 + 1)), (1, .int (x1 + r13)), (0, .ref (q 1))]) hx hb dX2_supposedWorthOfAll_18 hl (k := 2) rfl (congrArg (fun z : Int32 => x2 + z) (show Int32.ofInt (1) = 1 by decide)) (by decide) rfl (fun ls hl => ?_)
        refine lv_goto (tgt := 4) hx hb dX2_supposedWorthOfAll_21 (by decide) ?_
        exact ih G (x1 + r13) (x2 + 1) _ _ _ h hM hS (lv_sub hl [2, 1, 0] rfl)
  subst hargs
  have hl := lv_entry ([.ref (q 1)]) (n := 3) (Nat.le_of_ble_eq_true rfl)
  rw [lg_entry_eq]
  generalize (lg_sl ([.ref (q 1)]) ++ List.replicate (3 - (lg_sl ([.ref (q 1)])).length) Slot.unset).toArray = ls at hl ⊢
  have hl : lv_has ls 3 [(0, .ref (q 1))] := hl
  have h := hs
  unfold sX2_supposedWorthOfAll at h
  have hM0 := hM
  refine lv_iconst (v := 0) hx hb dX2_supposedWorthOfAll_0 (by decide) ?_
  refine lv_istore_n (lv' := [(1, .int (0 : Int32)), (0, .ref (q 1))]) hx hb dX2_supposedWorthOfAll_1 rfl hl (by decide) rfl (fun ls hl => ?_)
  refine lv_iconst (v := 0) hx hb dX2_supposedWorthOfAll_2 (by decide) ?_
  refine lv_istore_n (lv' := [(2, .int (0 : Int32)), (1, .int (0 : Int32)), (0, .ref (q 1))]) hx hb dX2_supposedWorthOfAll_3 rfl hl (by decide) rfl (fun ls hl => ?_)
  exact L4 K G (0 : Int32) (0 : Int32) _ _ _ h hM hS (lv_sub hl [2, 1, 0] rfl)
set_option maxHeartbeats 4000000 in
set_option maxRecDepth 100000 in
theorem kX2_trueWorthOfAll (l : Launch) (D : va_G) (cI cR : ClassId) (q : Nat → Nat) (G : Nat → Nat → Int32) (K : Nat) (r : Int32) (hs : sX2_trueWorthOfAll K G  = some r) : Met l yX2_trueWorthOfAll wsX2_trueWorthOfAll ({ frames := 2, cells := 0, slots := 0, locals := 45 } : Room) (mPre [.ref (q 1)] D cI cR q tmC G) (mI r) 0 0 (fun _ => False) := by
  refine Met.ofW (cc := cX2_trueWorthOfAll) (maxL := 3) (ret := (some .int)) (by decide) rfl ?_
  intro p e s m args below meth c s₁ B hml hv
  obtain ⟨hargs, hM, hK⟩ := hv
  have hx := B.exec
  have hb := B.bytes
  have hr := B.returns
  have hts := atoms_spec (ws := wsX2_trueWorthOfAll) B.pre
  have hown : s.vm.findClass RX2 = some m.cls := findClass_of_methodNamed B.named
  have hlocks := B.notSynchronized
  have hS : va_S (fun _ => False) s.heap s.heap [] := va_S.rf
  have L4 : ∀ (n : Nat), ∀ (G : Nat → Nat → Int32) (x1 : Int32) (x2 : Int32) (H : Heap) (locs : List Loc) (ls : Array Slot), sX2_trueWorthOfAll_L4 K G n x1 x2 = some r → MW D cI cR q tmC G H → va_S (fun _ => False) s.heap H locs → lv_has ls 3 [(0, .ref (q 1)), (1, .int x1), (2, .int x2)] → W p l e (headSpec wsX2_trueWorthOfAll ({ frames := 2, cells := 0, slots := 0, locals := 45 } : Room)).room s m args below meth c H locs 0 0 (MQ below (mI r) args s 0 0 (fun _ => False)) (F0 m 4 ls []) := by
    clear hM hS
    intro n
    induction n with
    | zero => exact fun _ _ _ _ _ _ h => absurd h (by simp [sX2_trueWorthOfAll_L4])
    | succ n ih =>
      intro G x1 x2 H locs ls h hM hS hl
      rw [sX2_trueWorthOfAll_L4] at h
      refine lv_iload_n hx hb dX2_trueWorthOfAll_4 rfl (lv_at hl 2 rfl) ?_
      refine lv_bipush (v := 6) hx hb dX2_trueWorthOfAll_5 (by decide) ?_
      refine lv_icmp_ge (tgt := 24) hx hb dX2_trueWorthOfAll_7 (by decide) (fun c7 => ?_) (fun c7 => ?_)
      · replace h := ite_t h c7
        refine lv_iload_n hx hb dX2_trueWorthOfAll_24 rfl (lv_at hl 1 rfl) ?_
        exact W.iret (v := x1) hx hb hr (fun t ht hW => ⟨⟨x1, (), rfl, Option.some.inj h, trivial⟩, hS.F ht⟩) hS.2.2 dX2_trueWorthOfAll_25
      · replace h := ite_f h c7
        refine lv_iload_n hx hb dX2_trueWorthOfAll_10 rfl (lv_at hl 1 rfl) ?_
        refine lv_aload_n hx hb dX2_trueWorthOfAll_11 rfl (lv_at hl 0 rfl) ?_
        refine lv_iload_n hx hb dX2_trueWorthOfAll_12 rfl (lv_at hl 2 rfl) ?_
        obtain ⟨r13, e13, h⟩ := bind_s h
        refine k_cI (va_runV (As := [.int x2]) (rest := [.int x1]) ⟨hx, hb, hml, hown, hts⟩ (kX2_trueWorth l D cI cR q G K x2 r13 e13) (cwV 1 hts gX2_trueWorthOfAll_X2_trueWorth rfl rfl rfl (by decide +kernel) ⟨Nat.le_of_ble_eq_true rfl, Nat.le_of_ble_eq_true rfl⟩) (mPreV hK hM 1 rfl rfl) rfl rfl hl.1 rfl (lv_room (Nat.le_of_ble_eq_true rfl)) dX2_trueWorthOfAll_13 ⟨Nat.le_of_ble_eq_true rfl, Nat.le_of_ble_eq_true rfl⟩) hS hM (fun H locs hM hS => ?_)
        refine lv_iadd hx hb dX2_trueWorthOfAll_16 ?_
        refine lv_istore_n (lv' := [(1, .int (x1 + r13)), (0, .ref (q 1)), (2, .int x2)]) hx hb dX2_trueWorthOfAll_17 rfl hl (by decide) rfl (fun ls hl => ?_)
        refine lv_iinc (v := (x2 + 1)) (lv' := [(2, .int (x2 + 1)), (1, .int (x1 + r13)), (0, .ref (q 1))]) hx hb dX2_trueWorthOfAll_18 hl (k := 2) rfl (congrArg (fun z : Int32 => x2 + z) (show Int32.ofInt (1) = 1 by decide)) (by decide) rfl (fun ls hl => ?_)
        refine lv_goto (tgt := 4) hx hb dX2_trueWorthOfAll_21 (by decide) ?_
        exact ih G (x1 + r13) (x2 + 1) _ _ _ h hM hS (lv_sub hl [2, 1, 0] rfl)
  subst hargs
  have hl := lv_entry ([.ref (q 1)]) (n := 3) (Nat.le_of_ble_eq_true rfl)
  rw [lg_entry_eq]
  generalize (lg_sl ([.ref (q 1)]) ++ List.replicate (3 - (lg_sl ([.ref (q 1)])).length) Slot.unset).toArray = ls at hl ⊢
  have hl : lv_has ls 3 [(0, .ref (q 1))] := hl
  have h := hs
  unfold sX2_trueWorthOfAll at h
  have hM0 := hM
  refine lv_iconst (v := 0) hx hb dX2_trueWorthOfAll_0 (by decide) ?_
  refine lv_istore_n (lv' := [(1, .int (0 : Int32)), (0, .ref (q 1))]) hx hb dX2_trueWorthOfAll_1 rfl hl (by decide) rfl (fun ls hl => ?_)
  refine lv_iconst (v := 0) hx hb dX2_trueWorthOfAll_2 (by decide) ?_
  refine lv_istore_n (lv' := [(2, .int (0 : Int32)), (1, .int (0 : Int32)), (0, .ref (q 1))]) hx hb dX2_trueWorthOfAll_3 rfl hl (by decide) rfl (fun ls hl => ?_)
  exact L4 K G (0 : Int32) (0 : Int32) _ _ _ h hM hS (lv_sub hl [2, 1, 0] rfl)
set_option maxHeartbeats 4000000 in
set_option maxRecDepth 100000 in
theorem kX2_fullBags (l : Launch) (D : va_G) (cI cR : ClassId) (q : Nat → Nat) (G : Nat → Nat → Int32) (K : Nat) (r : Int32) (hs : sX2_fullBags K G  = some r) : Met l yX2_fullBags wsX2_fullBags ({ frames := 2, cells := 0, slots := 0, locals := 44 } : Room) (mPre [.ref (q 1)] D cI cR q tmC G) (mI r) 0 0 (fun _ => False) := by
  refine Met.ofW (cc := cX2_fullBags) (maxL := 3) (ret := (some .int)) (by decide) rfl ?_
  intro p e s m args below meth c s₁ B hml hv
  obtain ⟨hargs, hM, hK⟩ := hv
  have hx := B.exec
  have hb := B.bytes
  have hr := B.returns
  have hts := atoms_spec (ws := wsX2_fullBags) B.pre
  have hown : s.vm.findClass RX2 = some m.cls := findClass_of_methodNamed B.named
  have hlocks := B.notSynchronized
  have hS : va_S (fun _ => False) s.heap s.heap [] := va_S.rf
  have L4 : ∀ (n : Nat), ∀ (G : Nat → Nat → Int32) (x1 : Int32) (x2 : Int32) (H : Heap) (locs : List Loc) (ls : Array Slot), sX2_fullBags_L4 K G n x1 x2 = some r → MW D cI cR q tmC G H → va_S (fun _ => False) s.heap H locs → lv_has ls 3 [(0, .ref (q 1)), (1, .int x1), (2, .int x2)] → W p l e (headSpec wsX2_fullBags ({ frames := 2, cells := 0, slots := 0, locals := 44 } : Room)).room s m args below meth c H locs 0 0 (MQ below (mI r) args s 0 0 (fun _ => False)) (F0 m 4 ls []) := by
    clear hM hS
    intro n
    induction n with
    | zero => exact fun _ _ _ _ _ _ h => absurd h (by simp [sX2_fullBags_L4])
    | succ n ih =>
      intro G x1 x2 H locs ls h hM hS hl
      rw [sX2_fullBags_L4] at h
      refine lv_iload_n hx hb dX2_fullBags_4 rfl (lv_at hl 2 rfl) ?_
      refine lv_bipush (v := 6) hx hb dX2_fullBags_5 (by decide) ?_
      refine lv_icmp_ge (tgt := 27) hx hb dX2_fullBags_7 (by decide) (fun c7 => ?_) (fun c7 => ?_)
      · replace h := ite_t h c7
        refine lv_iload_n hx hb dX2_fullBags_27 rfl (lv_at hl 1 rfl) ?_
        exact W.iret (v := x1) hx hb hr (fun t ht hW => ⟨⟨x1, (), rfl, Option.some.inj h, trivial⟩, hS.F ht⟩) hS.2.2 dX2_fullBags_28
      · replace h := ite_f h c7
        refine lv_aload_n hx hb dX2_fullBags_10 rfl (lv_at hl 0 rfl) ?_
        refine lv_iload_n hx hb dX2_fullBags_11 rfl (lv_at hl 2 rfl) ?_
        obtain ⟨r12, e12, h⟩ := bind_s h
        refine k_cI (va_runV (As := [.int x2]) (rest := []) ⟨hx, hb, hml, hown, hts⟩ (kX2_isFull l D cI cR q G K x2 r12 e12) (cwV 1 hts gX2_fullBags_X2_isFull rfl rfl rfl (by decide +kernel) ⟨Nat.le_of_ble_eq_true rfl, Nat.le_of_ble_eq_true rfl⟩) (mPreV hK hM 1 rfl rfl) rfl rfl hl.1 rfl (lv_room (Nat.le_of_ble_eq_true rfl)) dX2_fullBags_12 ⟨Nat.le_of_ble_eq_true rfl, Nat.le_of_ble_eq_true rfl⟩) hS hM (fun H locs hM hS => ?_)
        refine lv_if_eq (tgt := 21) hx hb dX2_fullBags_15 (by decide) (fun c15 => ?_) (fun c15 => ?_)
        · replace h := ite_t h c15
          refine lv_iinc (v := (x2 + 1)) (lv' := [(2, .int (x2 + 1)), (0, .ref (q 1)), (1, .int x1)]) hx hb dX2_fullBags_21 hl (k := 2) rfl (congrArg (fun z : Int32 => x2 + z) (show Int32.ofInt (1) = 1 by decide)) (by decide) rfl (fun ls hl => ?_)
          refine lv_goto (tgt := 4) hx hb dX2_fullBags_24 (by decide) ?_
          exact ih G x1 (x2 + 1) _ _ _ h hM hS (lv_sub hl [1, 2, 0] rfl)
        · replace h := ite_f h c15
          refine lv_iinc (v := (x1 + 1)) (lv' := [(1, .int (x1 + 1)), (0, .ref (q 1)), (2, .int x2)]) hx hb dX2_fullBags_18 hl (k := 1) rfl (congrArg (fun z : Int32 => x1 + z) (show Int32.ofInt (1) = 1 by decide)) (by decide) rfl (fun ls hl => ?_)
          refine lv_iinc (v := (x2 + 1)) (lv' := [(2, .int (x2 + 1)), (1, .int (x1 + 1)), (0, .ref (q 1))]) hx hb dX2_fullBags_21 hl (k := 2) rfl (congrArg (fun z : Int32 => x2 + z) (show Int32.ofInt (1) = 1 by decide)) (by decide) rfl (fun ls hl => ?_)
          refine lv_goto (tgt := 4) hx hb dX2_fullBags_24 (by decide) ?_
          exact ih G (x1 + 1) (x2 + 1) _ _ _ h hM hS (lv_sub hl [2, 1, 0] rfl)
  subst hargs
  have hl := lv_entry ([.ref (q 1)]) (n := 3) (Nat.le_of_ble_eq_true rfl)
  rw [lg_entry_eq]
  generalize (lg_sl ([.ref (q 1)]) ++ List.replicate (3 - (lg_sl ([.ref (q 1)])).length) Slot.unset).toArray = ls at hl ⊢
  have hl : lv_has ls 3 [(0, .ref (q 1))] := hl
  have h := hs
  unfold sX2_fullBags at h
  have hM0 := hM
  refine lv_iconst (v := 0) hx hb dX2_fullBags_0 (by decide) ?_
  refine lv_istore_n (lv' := [(1, .int (0 : Int32)), (0, .ref (q 1))]) hx hb dX2_fullBags_1 rfl hl (by decide) rfl (fun ls hl => ?_)
  refine lv_iconst (v := 0) hx hb dX2_fullBags_2 (by decide) ?_
  refine lv_istore_n (lv' := [(2, .int (0 : Int32)), (1, .int (0 : Int32)), (0, .ref (q 1))]) hx hb dX2_fullBags_3 rfl hl (by decide) rfl (fun ls hl => ?_)
  exact L4 K G (0 : Int32) (0 : Int32) _ _ _ h hM hS (lv_sub hl [2, 1, 0] rfl)
set_option maxHeartbeats 4000000 in
set_option maxRecDepth 100000 in
theorem kX2_aboutAll (l : Launch) (D : va_G) (cI cR : ClassId) (q : Nat → Nat) (G : Nat → Nat → Int32) (K : Nat) (p1 : Int32) (r : Int32) (hs : sX2_aboutAll K G p1 = some r) : Met l yX2_aboutAll wsX2_aboutAll ({ frames := 3, cells := 0, slots := 0, locals := 67 } : Room) (mPre [.ref (q 1), .int p1] D cI cR q tmC G) (mI r) 0 0 (fun _ => False) := by
  refine Met.ofW (cc := cX2_aboutAll) (maxL := 2) (ret := (some .int)) (by decide) rfl ?_
  intro p e s m args below meth c s₁ B hml hv
  obtain ⟨hargs, hM, hK⟩ := hv
  have hx := B.exec
  have hb := B.bytes
  have hr := B.returns
  have hts := atoms_spec (ws := wsX2_aboutAll) B.pre
  have hown : s.vm.findClass RX2 = some m.cls := findClass_of_methodNamed B.named
  have hlocks := B.notSynchronized
  have hS : va_S (fun _ => False) s.heap s.heap [] := va_S.rf
  have w0 := hts (Cond.fieldLink RX2 45 "CoinRails$State" "kinds" "I") (List.mem_of_getElem? (i := 1) (by decide +kernel))
  have iX2 : ∀ w ∈ wsX20, w ∈ wsX2_aboutAll := fun _ h => List.mem_cons_of_mem _ (List.mem_append_right _ (h))
  have w2 := hts (Cond.fieldLink RX2 21 "CoinRails$State" "fed" "[I") (List.mem_of_getElem? (i := 2) (by decide +kernel))
  have w3 := hts (Cond.fieldLink RX2 24 "CoinRails$State" "rejects" "[I") (List.mem_of_getElem? (i := 3) (by decide +kernel))
  have w4 := hts (Cond.fieldLink RX2 55 "CoinRails$State" "takenAway" "I") (List.mem_of_getElem? (i := 4) (by decide +kernel))
  subst hargs
  have hl := lv_entry ([.ref (q 1), .int p1]) (n := 2) (Nat.le_of_ble_eq_true rfl)
  rw [lg_entry_eq]
  generalize (lg_sl ([.ref (q 1), .int p1]) ++ List.replicate (2 - (lg_sl ([.ref (q 1), .int p1])).length) Slot.unset).toArray = ls at hl ⊢
  have hl : lv_has ls 2 [(0, .ref (q 1)), (1, .int p1)] := hl
  have h := hs
  unfold sX2_aboutAll at h
  have hM0 := hM
  refine lv_iload_n hx hb dX2_aboutAll_0 rfl (lv_at hl 1 rfl) ?_
  rcases Decidable.em (p1 = (0 : Int32)) with c1_0 | c1_0
  · replace h := ite_t h c1_0
    refine lv_tableIn (off := 51) (tgt := 52) hx hb dX2_aboutAll_1 (by rw [c1_0]; decide) (by rw [c1_0]; decide) (by rw [c1_0]; rfl) (by decide) ?_
    refine lv_aload_n hx hb dX2_aboutAll_52 rfl (lv_at hl 0 rfl) ?_
    refine k_getI (C := RX2) (T := TX2) (N := 13) hx hb hts iX2 hown hK hM 1 rfl rfl 0 (by decide) rfl w0 (fun _ h9 => h9) dX2_aboutAll_53 ?_
    exact W.iret (v := (G 1 0)) hx hb hr (fun t ht hW => ⟨⟨(G 1 0), (), rfl, Option.some.inj h, trivial⟩, hS.F ht⟩) hS.2.2 dX2_aboutAll_56
  · replace h := ite_f h c1_0
    rcases Decidable.em (p1 = (1 : Int32)) with c1_1 | c1_1
    · replace h := ite_t h c1_1
      refine lv_tableIn (off := 56) (tgt := 57) hx hb dX2_aboutAll_1 (by rw [c1_1]; decide) (by rw [c1_1]; decide) (by rw [c1_1]; rfl) (by decide) ?_
      refine lv_aload_n hx hb dX2_aboutAll_57 rfl (lv_at hl 0 rfl) ?_
      refine k_getR (C := RX2) (T := TX2) (N := 13) hx hb hts iX2 hown hK hM 1 rfl rfl 4 (by decide) rfl w2 (fun _ h9 => h9) dX2_aboutAll_58 ?_
      obtain ⟨r61, e61, h⟩ := bind_s h
      refine k_cI (va_runS (As := [.ref (q 5)]) (rest := []) ⟨hx, hb, hml, hown, hts⟩ (kX2_sum l D cI cR q G K 5 6 rfl r61 e61) (va_cwS 1 hts gX2_aboutAll_X2_sum rfl rfl rfl (by decide +kernel) ⟨Nat.le_of_ble_eq_true rfl, Nat.le_of_ble_eq_true rfl⟩) (mPreS hK hM) rfl rfl hl.1 rfl (lv_room (Nat.le_of_ble_eq_true rfl)) dX2_aboutAll_61 ⟨Nat.le_of_ble_eq_true rfl, Nat.le_of_ble_eq_true rfl⟩) hS hM (fun H locs hM hS => ?_)
      exact W.iret (v := r61) hx hb hr (fun t ht hW => ⟨⟨r61, (), rfl, Option.some.inj h, trivial⟩, hS.F ht⟩) hS.2.2 dX2_aboutAll_64
    · replace h := ite_f h c1_1
      rcases Decidable.em (p1 = (2 : Int32)) with c1_2 | c1_2
      · replace h := ite_t h c1_2
        refine lv_tableIn (off := 64) (tgt := 65) hx hb dX2_aboutAll_1 (by rw [c1_2]; decide) (by rw [c1_2]; decide) (by rw [c1_2]; rfl) (by decide) ?_
        refine lv_aload_n hx hb dX2_aboutAll_65 rfl (lv_at hl 0 rfl) ?_
        obtain ⟨r66, e66, h⟩ := bind_s h
        refine k_cI (va_runV (As := []) (rest := []) ⟨hx, hb, hml, hown, hts⟩ (kX2_coinsInBags l D cI cR q G K r66 e66) (cwV 0 hts gX2_aboutAll_X2_coinsInBags rfl rfl rfl (by decide +kernel) ⟨Nat.le_of_ble_eq_true rfl, Nat.le_of_ble_eq_true rfl⟩) (mPreV hK hM 1 rfl rfl) rfl rfl hl.1 rfl (lv_room (Nat.le_of_ble_eq_true rfl)) dX2_aboutAll_66 ⟨Nat.le_of_ble_eq_true rfl, Nat.le_of_ble_eq_true rfl⟩) hS hM (fun H locs hM hS => ?_)
        exact W.iret (v := r66) hx hb hr (fun t ht hW => ⟨⟨r66, (), rfl, Option.some.inj h, trivial⟩, hS.F ht⟩) hS.2.2 dX2_aboutAll_69
      · replace h := ite_f h c1_2
        rcases Decidable.em (p1 = (3 : Int32)) with c1_3 | c1_3
        · replace h := ite_t h c1_3
          refine lv_tableIn (off := 69) (tgt := 70) hx hb dX2_aboutAll_1 (by rw [c1_3]; decide) (by rw [c1_3]; decide) (by rw [c1_3]; rfl) (by decide) ?_
          refine lv_aload_n hx hb dX2_aboutAll_70 rfl (lv_at hl 0 rfl) ?_
          obtain ⟨r71, e71, h⟩ := bind_s h
          refine k_cI (va_runV (As := []) (rest := []) ⟨hx, hb, hml, hown, hts⟩ (kX2_stuckRails l D cI cR q G K r71 e71) (cwV 0 hts gX2_aboutAll_X2_stuckRails rfl rfl rfl (by decide +kernel) ⟨Nat.le_of_ble_eq_true rfl, Nat.le_of_ble_eq_true rfl⟩) (mPreV hK hM 1 rfl rfl) rfl rfl hl.1 rfl (lv_room (Nat.le_of_ble_eq_true rfl)) dX2_aboutAll_71 ⟨Nat.le_of_ble_eq_true rfl, Nat.le_of_ble_eq_true rfl⟩) hS hM (fun H locs hM hS => ?_)
          exact W.iret (v := r71) hx hb hr (fun t ht hW => ⟨⟨r71, (), rfl, Option.some.inj h, trivial⟩, hS.F ht⟩) hS.2.2 dX2_aboutAll_74
        · replace h := ite_f h c1_3
          rcases Decidable.em (p1 = (4 : Int32)) with c1_4 | c1_4
          · replace h := ite_t h c1_4
            refine lv_tableIn (off := 74) (tgt := 75) hx hb dX2_aboutAll_1 (by rw [c1_4]; decide) (by rw [c1_4]; decide) (by rw [c1_4]; rfl) (by decide) ?_
            refine lv_aload_n hx hb dX2_aboutAll_75 rfl (lv_at hl 0 rfl) ?_
            refine k_getR (C := RX2) (T := TX2) (N := 13) hx hb hts iX2 hown hK hM 1 rfl rfl 5 (by decide) rfl w3 (fun _ h9 => h9) dX2_aboutAll_76 ?_
            obtain ⟨r79, e79, h⟩ := bind_s h
            refine k_cI (va_runS (As := [.ref (q 6)]) (rest := []) ⟨hx, hb, hml, hown, hts⟩ (kX2_sum l D cI cR q G K 6 6 rfl r79 e79) (va_cwS 1 hts gX2_aboutAll_X2_sum rfl rfl rfl (by decide +kernel) ⟨Nat.le_of_ble_eq_true rfl, Nat.le_of_ble_eq_true rfl⟩) (mPreS hK hM) rfl rfl hl.1 rfl (lv_room (Nat.le_of_ble_eq_true rfl)) dX2_aboutAll_79 ⟨Nat.le_of_ble_eq_true rfl, Nat.le_of_ble_eq_true rfl⟩) hS hM (fun H locs hM hS => ?_)
            exact W.iret (v := r79) hx hb hr (fun t ht hW => ⟨⟨r79, (), rfl, Option.some.inj h, trivial⟩, hS.F ht⟩) hS.2.2 dX2_aboutAll_82
          · replace h := ite_f h c1_4
            rcases Decidable.em (p1 = (5 : Int32)) with c1_5 | c1_5
            · replace h := ite_t h c1_5
              refine lv_tableIn (off := 82) (tgt := 83) hx hb dX2_aboutAll_1 (by rw [c1_5]; decide) (by rw [c1_5]; decide) (by rw [c1_5]; rfl) (by decide) ?_
              refine lv_aload_n hx hb dX2_aboutAll_83 rfl (lv_at hl 0 rfl) ?_
              refine k_getI (C := RX2) (T := TX2) (N := 13) hx hb hts iX2 hown hK hM 1 rfl rfl 12 (by decide) rfl w4 (fun _ h9 => h9) dX2_aboutAll_84 ?_
              exact W.iret (v := (G 1 12)) hx hb hr (fun t ht hW => ⟨⟨(G 1 12), (), rfl, Option.some.inj h, trivial⟩, hS.F ht⟩) hS.2.2 dX2_aboutAll_87
            · replace h := ite_f h c1_5
              rcases Decidable.em (p1 = (6 : Int32)) with c1_6 | c1_6
              · replace h := ite_t h c1_6
                refine lv_tableIn (off := 87) (tgt := 88) hx hb dX2_aboutAll_1 (by rw [c1_6]; decide) (by rw [c1_6]; decide) (by rw [c1_6]; rfl) (by decide) ?_
                refine lv_aload_n hx hb dX2_aboutAll_88 rfl (lv_at hl 0 rfl) ?_
                obtain ⟨r89, e89, h⟩ := bind_s h
                refine k_cI (va_runV (As := []) (rest := []) ⟨hx, hb, hml, hown, hts⟩ (kX2_misfits l D cI cR q G K r89 e89) (cwV 0 hts gX2_aboutAll_X2_misfits rfl rfl rfl (by decide +kernel) ⟨Nat.le_of_ble_eq_true rfl, Nat.le_of_ble_eq_true rfl⟩) (mPreV hK hM 1 rfl rfl) rfl rfl hl.1 rfl (lv_room (Nat.le_of_ble_eq_true rfl)) dX2_aboutAll_89 ⟨Nat.le_of_ble_eq_true rfl, Nat.le_of_ble_eq_true rfl⟩) hS hM (fun H locs hM hS => ?_)
                exact W.iret (v := r89) hx hb hr (fun t ht hW => ⟨⟨r89, (), rfl, Option.some.inj h, trivial⟩, hS.F ht⟩) hS.2.2 dX2_aboutAll_92
              · replace h := ite_f h c1_6
                rcases Decidable.em (p1 = (7 : Int32)) with c1_7 | c1_7
                · replace h := ite_t h c1_7
                  refine lv_tableIn (off := 92) (tgt := 93) hx hb dX2_aboutAll_1 (by rw [c1_7]; decide) (by rw [c1_7]; decide) (by rw [c1_7]; rfl) (by decide) ?_
                  refine lv_aload_n hx hb dX2_aboutAll_93 rfl (lv_at hl 0 rfl) ?_
                  obtain ⟨r94, e94, h⟩ := bind_s h
                  refine k_cI (va_runV (As := []) (rest := []) ⟨hx, hb, hml, hown, hts⟩ (kX2_supposedWorthOfAll l D cI cR q G K r94 e94) (cwV 0 hts gX2_aboutAll_X2_supposedWorthOfAll rfl rfl rfl (by decide +kernel) ⟨Nat.le_of_ble_eq_true rfl, Nat.le_of_ble_eq_true rfl⟩) (mPreV hK hM 1 rfl rfl) rfl rfl hl.1 rfl (lv_room (Nat.le_of_ble_eq_true rfl)) dX2_aboutAll_94 ⟨Nat.le_of_ble_eq_true rfl, Nat.le_of_ble_eq_true rfl⟩) hS hM (fun H locs hM hS => ?_)
                  exact W.iret (v := r94) hx hb hr (fun t ht hW => ⟨⟨r94, (), rfl, Option.some.inj h, trivial⟩, hS.F ht⟩) hS.2.2 dX2_aboutAll_97
                · replace h := ite_f h c1_7
                  rcases Decidable.em (p1 = (8 : Int32)) with c1_8 | c1_8
                  · replace h := ite_t h c1_8
                    refine lv_tableIn (off := 97) (tgt := 98) hx hb dX2_aboutAll_1 (by rw [c1_8]; decide) (by rw [c1_8]; decide) (by rw [c1_8]; rfl) (by decide) ?_
                    refine lv_aload_n hx hb dX2_aboutAll_98 rfl (lv_at hl 0 rfl) ?_
                    obtain ⟨r99, e99, h⟩ := bind_s h
                    refine k_cI (va_runV (As := []) (rest := []) ⟨hx, hb, hml, hown, hts⟩ (kX2_trueWorthOfAll l D cI cR q G K r99 e99) (cwV 0 hts gX2_aboutAll_X2_trueWorthOfAll rfl rfl rfl (by decide +kernel) ⟨Nat.le_of_ble_eq_true rfl, Nat.le_of_ble_eq_true rfl⟩) (mPreV hK hM 1 rfl rfl) rfl rfl hl.1 rfl (lv_room (Nat.le_of_ble_eq_true rfl)) dX2_aboutAll_99 ⟨Nat.le_of_ble_eq_true rfl, Nat.le_of_ble_eq_true rfl⟩) hS hM (fun H locs hM hS => ?_)
                    exact W.iret (v := r99) hx hb hr (fun t ht hW => ⟨⟨r99, (), rfl, Option.some.inj h, trivial⟩, hS.F ht⟩) hS.2.2 dX2_aboutAll_102
                  · replace h := ite_f h c1_8
                    have e1_0 : (p1).toInt ≠ (0 : Int) := tsw_ne c1_0
                    have e1_1 : (p1).toInt ≠ (1 : Int) := tsw_ne c1_1
                    have e1_2 : (p1).toInt ≠ (2 : Int) := tsw_ne c1_2
                    have e1_3 : (p1).toInt ≠ (3 : Int) := tsw_ne c1_3
                    have e1_4 : (p1).toInt ≠ (4 : Int) := tsw_ne c1_4
                    have e1_5 : (p1).toInt ≠ (5 : Int) := tsw_ne c1_5
                    have e1_6 : (p1).toInt ≠ (6 : Int) := tsw_ne c1_6
                    have e1_7 : (p1).toInt ≠ (7 : Int) := tsw_ne c1_7
                    have e1_8 : (p1).toInt ≠ (8 : Int) := tsw_ne c1_8
                    refine lv_tableOut (tgt := 103) hx hb dX2_aboutAll_1 (by omega) (by decide) ?_
                    refine lv_aload_n hx hb dX2_aboutAll_103 rfl (lv_at hl 0 rfl) ?_
                    obtain ⟨r104, e104, h⟩ := bind_s h
                    refine k_cI (va_runV (As := []) (rest := []) ⟨hx, hb, hml, hown, hts⟩ (kX2_fullBags l D cI cR q G K r104 e104) (cwV 0 hts gX2_aboutAll_X2_fullBags rfl rfl rfl (by decide +kernel) ⟨Nat.le_of_ble_eq_true rfl, Nat.le_of_ble_eq_true rfl⟩) (mPreV hK hM 1 rfl rfl) rfl rfl hl.1 rfl (lv_room (Nat.le_of_ble_eq_true rfl)) dX2_aboutAll_104 ⟨Nat.le_of_ble_eq_true rfl, Nat.le_of_ble_eq_true rfl⟩) hS hM (fun H locs hM hS => ?_)
                    exact W.iret (v := r104) hx hb hr (fun t ht hW => ⟨⟨r104, (), rfl, Option.some.inj h, trivial⟩, hS.F ht⟩) hS.2.2 dX2_aboutAll_107
set_option maxHeartbeats 4000000 in
set_option maxRecDepth 100000 in
theorem kX2_fallsHome (l : Launch) (D : va_G) (cI cR : ClassId) (q : Nat → Nat) (G : Nat → Nat → Int32) (K : Nat) (p1 : Int32) (p2 : Int32) (r : Int32) (hs : sX2_fallsHome K G p1 p2 = some r) : Met l yX2_fallsHome wsX2_fallsHome ({ frames := 3, cells := 0, slots := 0, locals := 69 } : Room) (mPre [.ref (q 1), .int p1, .int p2] D cI cR q tmC G) (mI r) 0 0 (fun _ => False) := by
  refine Met.ofW (cc := cX2_fallsHome) (maxL := 3) (ret := (some .boolean)) (by decide) rfl ?_
  intro p e s m args below meth c s₁ B hml hv
  obtain ⟨hargs, hM, hK⟩ := hv
  have hx := B.exec
  have hb := B.bytes
  have hr := B.returns
  have hts := atoms_spec (ws := wsX2_fallsHome) B.pre
  have hown : s.vm.findClass RX2 = some m.cls := findClass_of_methodNamed B.named
  have hlocks := B.notSynchronized
  have hS : va_S (fun _ => False) s.heap s.heap [] := va_S.rf
  have w0 := hts (Cond.fieldLink RX2 18 "CoinRails$State" "home" "[I") (List.mem_of_getElem? (i := 1) (by decide +kernel))
  have iX2 : ∀ w ∈ wsX20, w ∈ wsX2_fallsHome := fun _ h => List.mem_cons_of_mem _ (List.mem_append_right _ (h))
  subst hargs
  have hl := lv_entry ([.ref (q 1), .int p1, .int p2]) (n := 3) (Nat.le_of_ble_eq_true rfl)
  rw [lg_entry_eq]
  generalize (lg_sl ([.ref (q 1), .int p1, .int p2]) ++ List.replicate (3 - (lg_sl ([.ref (q 1), .int p1, .int p2])).length) Slot.unset).toArray = ls at hl ⊢
  have hl : lv_has ls 3 [(0, .ref (q 1)), (1, .int p1), (2, .int p2)] := hl
  have h := hs
  unfold sX2_fallsHome at h
  have hM0 := hM
  refine lv_aload_n hx hb dX2_fallsHome_0 rfl (lv_at hl 0 rfl) ?_
  refine lv_iload_n hx hb dX2_fallsHome_1 rfl (lv_at hl 1 rfl) ?_
  refine lv_iload_n hx hb dX2_fallsHome_2 rfl (lv_at hl 2 rfl) ?_
  obtain ⟨r3, e3, h⟩ := bind_s h
  refine k_cI (va_runV (As := [.int p1, .int p2]) (rest := []) ⟨hx, hb, hml, hown, hts⟩ (kX2_placeFor l D cI cR q G K p1 p2 r3 e3) (cwV 2 hts gX2_fallsHome_X2_placeFor rfl rfl rfl (by decide +kernel) ⟨Nat.le_of_ble_eq_true rfl, Nat.le_of_ble_eq_true rfl⟩) (mPreV hK hM 1 rfl rfl) rfl rfl hl.1 rfl (lv_room (Nat.le_of_ble_eq_true rfl)) dX2_fallsHome_3 ⟨Nat.le_of_ble_eq_true rfl, Nat.le_of_ble_eq_true rfl⟩) hS hM (fun H locs hM hS => ?_)
  refine lv_aload_n hx hb dX2_fallsHome_6 rfl (lv_at hl 0 rfl) ?_
  refine k_getR (C := RX2) (T := TX2) (N := 13) hx hb hts iX2 hown hK hM 1 rfl rfl 3 (by decide) rfl w0 (fun _ h9 => h9) dX2_fallsHome_7 ?_
  refine lv_iload_n hx hb dX2_fallsHome_10 rfl (lv_at hl 1 rfl) ?_
  obtain ⟨g11, h⟩ := grd_s h
  refine k_iald hx hb hK hM 4 rfl g11 dX2_fallsHome_11 ?_
  refine lv_icmp_ne (tgt := 19) hx hb dX2_fallsHome_12 (by decide) (fun c12 => ?_) (fun c12 => ?_)
  · replace h := ite_f h c12
    refine lv_iconst (v := 0) hx hb dX2_fallsHome_19 (by decide) ?_
    exact W.zret (ty := .boolean) (v := (0 : Int32)) hx hb hr rfl (fun t ht hW => ⟨⟨(0 : Int32), (), rfl, Option.some.inj h, trivial⟩, hS.F ht⟩) hS.2.2 dX2_fallsHome_20
  · replace h := ite_t h c12
    refine lv_iconst (v := 1) hx hb dX2_fallsHome_15 (by decide) ?_
    refine lv_goto (tgt := 20) hx hb dX2_fallsHome_16 (by decide) ?_
    exact W.zret (ty := .boolean) (v := (1 : Int32)) hx hb hr rfl (fun t ht hW => ⟨⟨(1 : Int32), (), rfl, Option.some.inj h, trivial⟩, hS.F ht⟩) hS.2.2 dX2_fallsHome_20
set_option maxHeartbeats 4000000 in
set_option maxRecDepth 100000 in
theorem kX2_mostFittingWear (l : Launch) (D : va_G) (cI cR : ClassId) (q : Nat → Nat) (G : Nat → Nat → Int32) (K : Nat) (p1 : Int32) (r : Int32) (hs : sX2_mostFittingWear K G p1 = some r) : Met l yX2_mostFittingWear wsX2_mostFittingWear ({ frames := 4, cells := 0, slots := 0, locals := 91 } : Room) (mPre [.ref (q 1), .int p1] D cI cR q tmC G) (mI r) 0 0 (fun _ => False) := by
  refine Met.ofW (cc := cX2_mostFittingWear) (maxL := 4) (ret := (some .int)) (by decide) rfl ?_
  intro p e s m args below meth c s₁ B hml hv
  obtain ⟨hargs, hM, hK⟩ := hv
  have hx := B.exec
  have hb := B.bytes
  have hr := B.returns
  have hts := atoms_spec (ws := wsX2_mostFittingWear) B.pre
  have hown : s.vm.findClass RX2 = some m.cls := findClass_of_methodNamed B.named
  have hlocks := B.notSynchronized
  have hS : va_S (fun _ => False) s.heap s.heap [] := va_S.rf
  have L17 : ∀ (n : Nat), ∀ (G : Nat → Nat → Int32) (x2 : Int32) (x3 : Int32) (H : Heap) (locs : List Loc) (ls : Array Slot), sX2_mostFittingWear_L17 K G p1 n x2 x3 = some r → MW D cI cR q tmC G H → va_S (fun _ => False) s.heap H locs → lv_has ls 4 [(0, .ref (q 1)), (1, .int p1), (2, .int x2), (3, .int x3)] → W p l e (headSpec wsX2_mostFittingWear ({ frames := 4, cells := 0, slots := 0, locals := 91 } : Room)).room s m args below meth c H locs 0 0 (MQ below (mI r) args s 0 0 (fun _ => False)) (F0 m 17 ls []) := by
    clear hM hS
    intro n
    induction n with
    | zero => exact fun _ _ _ _ _ _ h => absurd h (by simp [sX2_mostFittingWear_L17])
    | succ n ih =>
      intro G x2 x3 H locs ls h hM hS hl
      rw [sX2_mostFittingWear_L17] at h
      refine lv_iload_n hx hb dX2_mostFittingWear_17 rfl (lv_at hl 3 rfl) ?_
      refine lv_if_le (tgt := 52) hx hb dX2_mostFittingWear_18 (by decide) (fun c18 => ?_) (fun c18 => ?_)
      · replace h := ite_t h c18
        refine lv_iload_n hx hb dX2_mostFittingWear_52 rfl (lv_at hl 2 rfl) ?_
        exact W.iret (v := x2) hx hb hr (fun t ht hW => ⟨⟨x2, (), rfl, Option.some.inj h, trivial⟩, hS.F ht⟩) hS.2.2 dX2_mostFittingWear_53
      · replace h := ite_f h c18
        refine lv_iload_n hx hb dX2_mostFittingWear_21 rfl (lv_at hl 2 rfl) ?_
        refine lv_iload_n hx hb dX2_mostFittingWear_22 rfl (lv_at hl 3 rfl) ?_
        refine lv_iadd hx hb dX2_mostFittingWear_23 ?_
        refine lv_sipush (v := 999) hx hb dX2_mostFittingWear_24 (by decide) ?_
        refine lv_icmp_gt (tgt := 45) hx hb dX2_mostFittingWear_27 (by decide) (fun c27 => ?_) (fun c27 => ?_)
        · replace h := ite_t h c27
          refine lv_iload_n hx hb dX2_mostFittingWear_45 rfl (lv_at hl 3 rfl) ?_
          refine lv_iconst (v := 2) hx hb dX2_mostFittingWear_46 (by decide) ?_
          refine lv_idiv hx hb dX2_mostFittingWear_47 (by decide) ?_
          refine lv_istore_n (lv' := [(3, .int (x3 / (2 : Int32))), (0, .ref (q 1)), (1, .int p1), (2, .int x2)]) hx hb dX2_mostFittingWear_48 rfl hl (by decide) rfl (fun ls hl => ?_)
          refine lv_goto (tgt := 17) hx hb dX2_mostFittingWear_49 (by decide) ?_
          exact ih G x2 (x3 / (2 : Int32)) _ _ _ h hM hS (lv_sub hl [1, 2, 3, 0] rfl)
        · replace h := ite_f h c27
          refine lv_aload_n hx hb dX2_mostFittingWear_30 rfl (lv_at hl 0 rfl) ?_
          refine lv_iload_n hx hb dX2_mostFittingWear_31 rfl (lv_at hl 1 rfl) ?_
          refine lv_iload_n hx hb dX2_mostFittingWear_32 rfl (lv_at hl 2 rfl) ?_
          refine lv_iload_n hx hb dX2_mostFittingWear_33 rfl (lv_at hl 3 rfl) ?_
          refine lv_iadd hx hb dX2_mostFittingWear_34 ?_
          obtain ⟨r35, e35, h⟩ := bind_s h
          refine k_cI (va_runV (As := [.int p1, .int (x2 + x3)]) (rest := []) ⟨hx, hb, hml, hown, hts⟩ (kX2_fallsHome l D cI cR q G K p1 (x2 + x3) r35 e35) (cwV 2 hts gX2_mostFittingWear_X2_fallsHome rfl rfl rfl (by decide +kernel) ⟨Nat.le_of_ble_eq_true rfl, Nat.le_of_ble_eq_true rfl⟩) (mPreV hK hM 1 rfl rfl) rfl rfl hl.1 rfl (lv_room (Nat.le_of_ble_eq_true rfl)) dX2_mostFittingWear_35 ⟨Nat.le_of_ble_eq_true rfl, Nat.le_of_ble_eq_true rfl⟩) hS hM (fun H locs hM hS => ?_)
          refine lv_if_eq (tgt := 45) hx hb dX2_mostFittingWear_38 (by decide) (fun c38 => ?_) (fun c38 => ?_)
          · replace h := ite_t h c38
            refine lv_iload_n hx hb dX2_mostFittingWear_45 rfl (lv_at hl 3 rfl) ?_
            refine lv_iconst (v := 2) hx hb dX2_mostFittingWear_46 (by decide) ?_
            refine lv_idiv hx hb dX2_mostFittingWear_47 (by decide) ?_
            refine lv_istore_n (lv' := [(3, .int (x3 / (2 : Int32))), (0, .ref (q 1)), (1, .int p1), (2, .int x2)]) hx hb dX2_mostFittingWear_48 rfl hl (by decide) rfl (fun ls hl => ?_)
            refine lv_goto (tgt := 17) hx hb dX2_mostFittingWear_49 (by decide) ?_
            exact ih G x2 (x3 / (2 : Int32)) _ _ _ h hM hS (lv_sub hl [1, 2, 3, 0] rfl)
          · replace h := ite_f h c38
            refine lv_iload_n hx hb dX2_mostFittingWear_41 rfl (lv_at hl 2 rfl) ?_
            refine lv_iload_n hx hb dX2_mostFittingWear_42 rfl (lv_at hl 3 rfl) ?_
            refine lv_iadd hx hb dX2_mostFittingWear_43 ?_
            refine lv_istore_n (lv' := [(2, .int (x2 + x3)), (0, .ref (q 1)), (1, .int p1), (3, .int x3)]) hx hb dX2_mostFittingWear_44 rfl hl (by decide) rfl (fun ls hl => ?_)
            refine lv_iload_n hx hb dX2_mostFittingWear_45 rfl (lv_at hl 3 rfl) ?_
            refine lv_iconst (v := 2) hx hb dX2_mostFittingWear_46 (by decide) ?_
            refine lv_idiv hx hb dX2_mostFittingWear_47 (by decide) ?_
            refine lv_istore_n (lv' := [(3, .int (x3 / (2 : Int32))), (2, .int (x2 + x3)), (0, .ref (q 1)), (1, .int p1)]) hx hb dX2_mostFittingWear_48 rfl hl (by decide) rfl (fun ls hl => ?_)
            refine lv_goto (tgt := 17) hx hb dX2_mostFittingWear_49 (by decide) ?_
            exact ih G (x2 + x3) (x3 / (2 : Int32)) _ _ _ h hM hS (lv_sub hl [2, 3, 1, 0] rfl)
  subst hargs
  have hl := lv_entry ([.ref (q 1), .int p1]) (n := 4) (Nat.le_of_ble_eq_true rfl)
  rw [lg_entry_eq]
  generalize (lg_sl ([.ref (q 1), .int p1]) ++ List.replicate (4 - (lg_sl ([.ref (q 1), .int p1])).length) Slot.unset).toArray = ls at hl ⊢
  have hl : lv_has ls 4 [(0, .ref (q 1)), (1, .int p1)] := hl
  have h := hs
  unfold sX2_mostFittingWear at h
  have hM0 := hM
  refine lv_aload_n hx hb dX2_mostFittingWear_0 rfl (lv_at hl 0 rfl) ?_
  refine lv_iload_n hx hb dX2_mostFittingWear_1 rfl (lv_at hl 1 rfl) ?_
  refine lv_iconst (v := 0) hx hb dX2_mostFittingWear_2 (by decide) ?_
  obtain ⟨r3, e3, h⟩ := bind_s h
  refine k_cI (va_runV (As := [.int p1, .int (0 : Int32)]) (rest := []) ⟨hx, hb, hml, hown, hts⟩ (kX2_fallsHome l D cI cR q G K p1 (0 : Int32) r3 e3) (cwV 2 hts gX2_mostFittingWear_X2_fallsHome rfl rfl rfl (by decide +kernel) ⟨Nat.le_of_ble_eq_true rfl, Nat.le_of_ble_eq_true rfl⟩) (mPreV hK hM 1 rfl rfl) rfl rfl hl.1 rfl (lv_room (Nat.le_of_ble_eq_true rfl)) dX2_mostFittingWear_3 ⟨Nat.le_of_ble_eq_true rfl, Nat.le_of_ble_eq_true rfl⟩) hS hM (fun H locs hM hS => ?_)
  refine lv_if_ne (tgt := 11) hx hb dX2_mostFittingWear_6 (by decide) (fun c6 => ?_) (fun c6 => ?_)
  · replace h := ite_f h c6
    refine lv_iconst (v := 0) hx hb dX2_mostFittingWear_11 (by decide) ?_
    refine lv_istore_n (lv' := [(2, .int (0 : Int32)), (0, .ref (q 1)), (1, .int p1)]) hx hb dX2_mostFittingWear_12 rfl hl (by decide) rfl (fun ls hl => ?_)
    refine lv_sipush (v := 512) hx hb dX2_mostFittingWear_13 (by decide) ?_
    refine lv_istore_n (lv' := [(3, .int (512 : Int32)), (2, .int (0 : Int32)), (0, .ref (q 1)), (1, .int p1)]) hx hb dX2_mostFittingWear_16 rfl hl (by decide) rfl (fun ls hl => ?_)
    exact L17 K G (0 : Int32) (512 : Int32) _ _ _ h hM hS (lv_sub hl [2, 3, 1, 0] rfl)
  · replace h := ite_t h c6
    refine lv_iconst (v := -1) hx hb dX2_mostFittingWear_9 (by decide) ?_
    exact W.iret (v := (-1 : Int32)) hx hb hr (fun t ht hW => ⟨⟨(-1 : Int32), (), rfl, Option.some.inj h, trivial⟩, hS.F ht⟩) hS.2.2 dX2_mostFittingWear_10
set_option maxHeartbeats 4000000 in
set_option maxRecDepth 100000 in
theorem kX2_leastSortingGap (l : Launch) (D : va_G) (cI cR : ClassId) (q : Nat → Nat) (G : Nat → Nat → Int32) (K : Nat) (p1 : Int32) (r : Int32) (hs : sX2_leastSortingGap K G p1 = some r) : Met l yX2_leastSortingGap wsX2_leastSortingGap ({ frames := 1, cells := 0, slots := 0, locals := 21 } : Room) (mPre [.ref (q 1), .int p1] D cI cR q tmC G) (mI r) 0 0 (fun _ => False) := by
  refine Met.ofW (cc := cX2_leastSortingGap) (maxL := 5) (ret := (some .int)) (by decide) rfl ?_
  intro p e s m args below meth c s₁ B hml hv
  obtain ⟨hargs, hM, hK⟩ := hv
  have hx := B.exec
  have hb := B.bytes
  have hr := B.returns
  have hts := atoms_spec (ws := wsX2_leastSortingGap) B.pre
  have hown : s.vm.findClass RX2 = some m.cls := findClass_of_methodNamed B.named
  have hlocks := B.notSynchronized
  have hS : va_S (fun _ => False) s.heap s.heap [] := va_S.rf
  have w0 := hts (Cond.fieldLink RX2 45 "CoinRails$State" "kinds" "I") (List.mem_of_getElem? (i := 1) (by decide +kernel))
  have iX2 : ∀ w ∈ wsX20, w ∈ wsX2_leastSortingGap := fun _ h => List.mem_cons_of_mem _ (List.mem_append_right _ (h))
  have w2 := hts (Cond.fieldLink RX2 18 "CoinRails$State" "home" "[I") (List.mem_of_getElem? (i := 2) (by decide +kernel))
  have w3 := hts (Cond.fieldLink RX2 9 "CoinRails$State" "diameter" "[I") (List.mem_of_getElem? (i := 3) (by decide +kernel))
  have w4 := hts (Cond.methodLink RX2 81 Lib.Math.min.name) (List.mem_of_getElem? (i := 8) (by decide +kernel))
  have w5 := hts (Cond.static Lib.Math.min.name) (List.mem_of_getElem? (i := 9) (by decide +kernel))
  have w6 := hts (Cond.initialized "java/lang/Math") (List.mem_of_getElem? (i := 6) (by decide +kernel))
  have w7 := hts (Cond.code Lib.Math.min.name Lib.Math.min.code 2 (some .int)) (List.mem_of_getElem? (i := 10) (by decide +kernel))
  have w8 := hts (Cond.methodLink RX2 76 Lib.Math.max.name) (List.mem_of_getElem? (i := 4) (by decide +kernel))
  have w9 := hts (Cond.static Lib.Math.max.name) (List.mem_of_getElem? (i := 5) (by decide +kernel))
  have w10 := hts (Cond.code Lib.Math.max.name Lib.Math.max.code 2 (some .int)) (List.mem_of_getElem? (i := 7) (by decide +kernel))
  have L9 : ∀ (n : Nat), ∀ (G : Nat → Nat → Int32) (x2 : Int32) (x3 : Int32) (x4 : Int32) (H : Heap) (locs : List Loc) (ls : Array Slot), sX2_leastSortingGap_L9 K G p1 n x2 x3 x4 = some r → MW D cI cR q tmC G H → va_S (fun _ => False) s.heap H locs → lv_has ls 5 [(0, .ref (q 1)), (1, .int p1), (2, .int x2), (3, .int x3), (4, .int x4)] → W p l e (headSpec wsX2_leastSortingGap ({ frames := 1, cells := 0, slots := 0, locals := 21 } : Room)).room s m args below meth c H locs 0 0 (MQ below (mI r) args s 0 0 (fun _ => False)) (F0 m 9 ls []) := by
    clear hM hS
    intro n
    induction n with
    | zero => exact fun _ _ _ _ _ _ _ h => absurd h (by simp [sX2_leastSortingGap_L9])
    | succ n ih =>
      intro G x2 x3 x4 H locs ls h hM hS hl
      rw [sX2_leastSortingGap_L9] at h
      refine lv_iload hx hb dX2_leastSortingGap_9 (lv_at hl 4 rfl) ?_
      refine lv_aload_n hx hb dX2_leastSortingGap_11 rfl (lv_at hl 0 rfl) ?_
      refine k_getI (C := RX2) (T := TX2) (N := 13) hx hb hts iX2 hown hK hM 1 rfl rfl 0 (by decide) rfl w0 (fun _ h9 => h9) dX2_leastSortingGap_12 ?_
      refine lv_icmp_ge (tgt := 75) hx hb dX2_leastSortingGap_15 (by decide) (fun c15 => ?_) (fun c15 => ?_)
      · replace h := ite_t h c15
        refine lv_iload_n hx hb dX2_leastSortingGap_75 rfl (lv_at hl 2 rfl) ?_
        refine lv_iload_n hx hb dX2_leastSortingGap_76 rfl (lv_at hl 3 rfl) ?_
        refine lv_icmp_gt (tgt := 84) hx hb dX2_leastSortingGap_77 (by decide) (fun c77 => ?_) (fun c77 => ?_)
        · replace h := ite_t h c77
          refine lv_iconst (v := -1) hx hb dX2_leastSortingGap_84 (by decide) ?_
          exact W.iret (v := (-1 : Int32)) hx hb hr (fun t ht hW => ⟨⟨(-1 : Int32), (), rfl, Option.some.inj h, trivial⟩, hS.F ht⟩) hS.2.2 dX2_leastSortingGap_85
        · replace h := ite_f h c77
          refine lv_iload_n hx hb dX2_leastSortingGap_80 rfl (lv_at hl 2 rfl) ?_
          refine lv_goto (tgt := 85) hx hb dX2_leastSortingGap_81 (by decide) ?_
          exact W.iret (v := x2) hx hb hr (fun t ht hW => ⟨⟨x2, (), rfl, Option.some.inj h, trivial⟩, hS.F ht⟩) hS.2.2 dX2_leastSortingGap_85
      · replace h := ite_f h c15
        refine lv_aload_n hx hb dX2_leastSortingGap_18 rfl (lv_at hl 0 rfl) ?_
        refine k_getR (C := RX2) (T := TX2) (N := 13) hx hb hts iX2 hown hK hM 1 rfl rfl 3 (by decide) rfl w2 (fun _ h9 => h9) dX2_leastSortingGap_19 ?_
        refine lv_iload hx hb dX2_leastSortingGap_22 (lv_at hl 4 rfl) ?_
        obtain ⟨g24, h⟩ := grd_s h
        refine k_iald hx hb hK hM 4 rfl g24 dX2_leastSortingGap_24 ?_
        refine lv_iload_n hx hb dX2_leastSortingGap_25 rfl (lv_at hl 1 rfl) ?_
        refine lv_icmp_ne (tgt := 46) hx hb dX2_leastSortingGap_26 (by decide) (fun c26 => ?_) (fun c26 => ?_)
        · replace h := ite_f h c26
          refine lv_aload_n hx hb dX2_leastSortingGap_46 rfl (lv_at hl 0 rfl) ?_
          refine k_getR (C := RX2) (T := TX2) (N := 13) hx hb hts iX2 hown hK hM 1 rfl rfl 3 (by decide) rfl w2 (fun _ h9 => h9) dX2_leastSortingGap_47 ?_
          refine lv_iload hx hb dX2_leastSortingGap_50 (lv_at hl 4 rfl) ?_
          obtain ⟨g52, h⟩ := grd_s h
          refine k_iald hx hb hK hM 4 rfl g52 dX2_leastSortingGap_52 ?_
          refine lv_iload_n hx hb dX2_leastSortingGap_53 rfl (lv_at hl 1 rfl) ?_
          refine lv_icmp_le (tgt := 69) hx hb dX2_leastSortingGap_54 (by decide) (fun c54 => ?_) (fun c54 => ?_)
          · replace h := ite_t h c54
            refine lv_iinc (v := (x4 + 1)) (lv' := [(4, .int (x4 + 1)), (0, .ref (q 1)), (1, .int p1), (2, .int x2), (3, .int x3)]) hx hb dX2_leastSortingGap_69 hl (k := 4) rfl (congrArg (fun z : Int32 => x4 + z) (show Int32.ofInt (1) = 1 by decide)) (by decide) rfl (fun ls hl => ?_)
            refine lv_goto (tgt := 9) hx hb dX2_leastSortingGap_72 (by decide) ?_
            exact ih G x2 x3 (x4 + 1) _ _ _ h hM hS (lv_sub hl [1, 2, 3, 4, 0] rfl)
          · replace h := ite_f h c54
            refine lv_iload_n hx hb dX2_leastSortingGap_57 rfl (lv_at hl 3 rfl) ?_
            refine lv_aload_n hx hb dX2_leastSortingGap_58 rfl (lv_at hl 0 rfl) ?_
            refine k_getR (C := RX2) (T := TX2) (N := 13) hx hb hts iX2 hown hK hM 1 rfl rfl 1 (by decide) rfl w3 (fun _ h9 => h9) dX2_leastSortingGap_59 ?_
            refine lv_iload hx hb dX2_leastSortingGap_62 (lv_at hl 4 rfl) ?_
            obtain ⟨g64, h⟩ := grd_s h
            refine k_iald hx hb hK hM 2 rfl g64 dX2_leastSortingGap_64 ?_
            refine va_mmin hx hb (hml.trans hl.1.symm) hown w4 w5 w6 w7 (Nat.le_of_ble_eq_true rfl) (Nat.le_of_ble_eq_true rfl) (Nat.le_of_ble_eq_true rfl) (Nat.le_of_ble_eq_true rfl) dX2_leastSortingGap_65 ?_
            refine lv_istore_n (lv' := [(3, .int (if (G 2 x4.toNatClampNeg) < x3 then (G 2 x4.toNatClampNeg) else x3)), (0, .ref (q 1)), (1, .int p1), (2, .int x2), (4, .int x4)]) hx hb dX2_leastSortingGap_68 rfl hl (by decide) rfl (fun ls hl => ?_)
            refine lv_iinc (v := (x4 + 1)) (lv' := [(4, .int (x4 + 1)), (3, .int (if (G 2 x4.toNatClampNeg) < x3 then (G 2 x4.toNatClampNeg) else x3)), (0, .ref (q 1)), (1, .int p1), (2, .int x2)]) hx hb dX2_leastSortingGap_69 hl (k := 4) rfl (congrArg (fun z : Int32 => x4 + z) (show Int32.ofInt (1) = 1 by decide)) (by decide) rfl (fun ls hl => ?_)
            refine lv_goto (tgt := 9) hx hb dX2_leastSortingGap_72 (by decide) ?_
            exact ih G x2 (if (G 2 x4.toNatClampNeg) < x3 then (G 2 x4.toNatClampNeg) else x3) (x4 + 1) _ _ _ h hM hS (lv_sub hl [2, 3, 4, 1, 0] rfl)
        · replace h := ite_t h c26
          refine lv_iload_n hx hb dX2_leastSortingGap_29 rfl (lv_at hl 2 rfl) ?_
          refine lv_aload_n hx hb dX2_leastSortingGap_30 rfl (lv_at hl 0 rfl) ?_
          refine k_getR (C := RX2) (T := TX2) (N := 13) hx hb hts iX2 hown hK hM 1 rfl rfl 1 (by decide) rfl w3 (fun _ h9 => h9) dX2_leastSortingGap_31 ?_
          refine lv_iload hx hb dX2_leastSortingGap_34 (lv_at hl 4 rfl) ?_
          obtain ⟨g36, h⟩ := grd_s h
          refine k_iald hx hb hK hM 2 rfl g36 dX2_leastSortingGap_36 ?_
          refine lv_iconst (v := 5) hx hb dX2_leastSortingGap_37 (by decide) ?_
          refine lv_iadd hx hb dX2_leastSortingGap_38 ?_
          refine va_mmax hx hb (hml.trans hl.1.symm) hown w8 w9 w6 w10 (Nat.le_of_ble_eq_true rfl) (Nat.le_of_ble_eq_true rfl) (Nat.le_of_ble_eq_true rfl) (Nat.le_of_ble_eq_true rfl) dX2_leastSortingGap_39 ?_
          refine lv_istore_n (lv' := [(2, .int (if x2 < ((G 2 x4.toNatClampNeg) + (5 : Int32)) then ((G 2 x4.toNatClampNeg) + (5 : Int32)) else x2)), (0, .ref (q 1)), (1, .int p1), (3, .int x3), (4, .int x4)]) hx hb dX2_leastSortingGap_42 rfl hl (by decide) rfl (fun ls hl => ?_)
          refine lv_goto (tgt := 69) hx hb dX2_leastSortingGap_43 (by decide) ?_
          refine lv_iinc (v := (x4 + 1)) (lv' := [(4, .int (x4 + 1)), (2, .int (if x2 < ((G 2 x4.toNatClampNeg) + (5 : Int32)) then ((G 2 x4.toNatClampNeg) + (5 : Int32)) else x2)), (0, .ref (q 1)), (1, .int p1), (3, .int x3)]) hx hb dX2_leastSortingGap_69 hl (k := 4) rfl (congrArg (fun z : Int32 => x4 + z) (show Int32.ofInt (1) = 1 by decide)) (by decide) rfl (fun ls hl => ?_)
          refine lv_goto (tgt := 9) hx hb dX2_leastSortingGap_72 (by decide) ?_
          exact ih G (if x2 < ((G 2 x4.toNatClampNeg) + (5 : Int32)) then ((G 2 x4.toNatClampNeg) + (5 : Int32)) else x2) x3 (x4 + 1) _ _ _ h hM hS (lv_sub hl [2, 3, 1, 4, 0] rfl)
  subst hargs
  have hl := lv_entry ([.ref (q 1), .int p1]) (n := 5) (Nat.le_of_ble_eq_true rfl)
  rw [lg_entry_eq]
  generalize (lg_sl ([.ref (q 1), .int p1]) ++ List.replicate (5 - (lg_sl ([.ref (q 1), .int p1])).length) Slot.unset).toArray = ls at hl ⊢
  have hl : lv_has ls 5 [(0, .ref (q 1)), (1, .int p1)] := hl
  have h := hs
  unfold sX2_leastSortingGap at h
  have hM0 := hM
  refine lv_iconst (v := -1) hx hb dX2_leastSortingGap_0 (by decide) ?_
  refine lv_istore_n (lv' := [(2, .int (-1 : Int32)), (0, .ref (q 1)), (1, .int p1)]) hx hb dX2_leastSortingGap_1 rfl hl (by decide) rfl (fun ls hl => ?_)
  refine lv_sipush (v := 4100) hx hb dX2_leastSortingGap_2 (by decide) ?_
  refine lv_istore_n (lv' := [(3, .int (4100 : Int32)), (2, .int (-1 : Int32)), (0, .ref (q 1)), (1, .int p1)]) hx hb dX2_leastSortingGap_5 rfl hl (by decide) rfl (fun ls hl => ?_)
  refine lv_iconst (v := 0) hx hb dX2_leastSortingGap_6 (by decide) ?_
  refine lv_istore (lv' := [(4, .int (0 : Int32)), (3, .int (4100 : Int32)), (2, .int (-1 : Int32)), (0, .ref (q 1)), (1, .int p1)]) hx hb dX2_leastSortingGap_7 hl (by decide) rfl (fun ls hl => ?_)
  exact L9 K G (-1 : Int32) (4100 : Int32) (0 : Int32) _ _ _ h hM hS (lv_sub hl [3, 4, 2, 1, 0] rfl)
set_option maxHeartbeats 4000000 in
set_option maxRecDepth 100000 in
theorem kX2_coinsUntilAstray (l : Launch) (D : va_G) (cI cR : ClassId) (q : Nat → Nat) (G : Nat → Nat → Int32) (K : Nat) (p1 : Int32) (r : Int32) (hs : sX2_coinsUntilAstray K G p1 = some r) : Met l yX2_coinsUntilAstray wsX2_coinsUntilAstray ({ frames := 4, cells := 0, slots := 0, locals := 91 } : Room) (mPre [.ref (q 1), .int p1] D cI cR q tmC G) (mI r) 0 0 (fun _ => False) := by
  refine Met.ofW (cc := cX2_coinsUntilAstray) (maxL := 2) (ret := (some .int)) (by decide) rfl ?_
  intro p e s m args below meth c s₁ B hml hv
  obtain ⟨hargs, hM, hK⟩ := hv
  have hx := B.exec
  have hb := B.bytes
  have hr := B.returns
  have hts := atoms_spec (ws := wsX2_coinsUntilAstray) B.pre
  have hown : s.vm.findClass RX2 = some m.cls := findClass_of_methodNamed B.named
  have hlocks := B.notSynchronized
  have hS : va_S (fun _ => False) s.heap s.heap [] := va_S.rf
  have w0 := hts (Cond.fieldLink RX2 18 "CoinRails$State" "home" "[I") (List.mem_of_getElem? (i := 1) (by decide +kernel))
  have iX2 : ∀ w ∈ wsX20, w ∈ wsX2_coinsUntilAstray := fun _ h => List.mem_cons_of_mem _ (List.mem_append_right _ (h))
  subst hargs
  have hl := lv_entry ([.ref (q 1), .int p1]) (n := 2) (Nat.le_of_ble_eq_true rfl)
  rw [lg_entry_eq]
  generalize (lg_sl ([.ref (q 1), .int p1]) ++ List.replicate (2 - (lg_sl ([.ref (q 1), .int p1])).length) Slot.unset).toArray = ls at hl ⊢
  have hl : lv_has ls 2 [(0, .ref (q 1)), (1, .int p1)] := hl
  have h := hs
  unfold sX2_coinsUntilAstray at h
  have hM0 := hM
  refine lv_aload_n hx hb dX2_coinsUntilAstray_0 rfl (lv_at hl 0 rfl) ?_
  refine lv_iload_n hx hb dX2_coinsUntilAstray_1 rfl (lv_at hl 1 rfl) ?_
  refine lv_iconst (v := 0) hx hb dX2_coinsUntilAstray_2 (by decide) ?_
  obtain ⟨r3, e3, h⟩ := bind_s h
  refine k_cI (va_runV (As := [.int p1, .int (0 : Int32)]) (rest := []) ⟨hx, hb, hml, hown, hts⟩ (kX2_fallsHome l D cI cR q G K p1 (0 : Int32) r3 e3) (cwV 2 hts gX2_coinsUntilAstray_X2_fallsHome rfl rfl rfl (by decide +kernel) ⟨Nat.le_of_ble_eq_true rfl, Nat.le_of_ble_eq_true rfl⟩) (mPreV hK hM 1 rfl rfl) rfl rfl hl.1 rfl (lv_room (Nat.le_of_ble_eq_true rfl)) dX2_coinsUntilAstray_3 ⟨Nat.le_of_ble_eq_true rfl, Nat.le_of_ble_eq_true rfl⟩) hS hM (fun H locs hM hS => ?_)
  refine lv_if_eq (tgt := 25) hx hb dX2_coinsUntilAstray_6 (by decide) (fun c6 => ?_) (fun c6 => ?_)
  · replace h := ite_t h c6
    refine lv_iconst (v := 0) hx hb dX2_coinsUntilAstray_25 (by decide) ?_
    exact W.iret (v := (0 : Int32)) hx hb hr (fun t ht hW => ⟨⟨(0 : Int32), (), rfl, Option.some.inj h, trivial⟩, hS.F ht⟩) hS.2.2 dX2_coinsUntilAstray_26
  · replace h := ite_f h c6
    refine lv_bipush (v := 40) hx hb dX2_coinsUntilAstray_9 (by decide) ?_
    refine lv_aload_n hx hb dX2_coinsUntilAstray_11 rfl (lv_at hl 0 rfl) ?_
    refine lv_aload_n hx hb dX2_coinsUntilAstray_12 rfl (lv_at hl 0 rfl) ?_
    refine k_getR (C := RX2) (T := TX2) (N := 13) hx hb hts iX2 hown hK hM 1 rfl rfl 3 (by decide) rfl w0 (fun _ h9 => h9) dX2_coinsUntilAstray_13 ?_
    refine lv_iload_n hx hb dX2_coinsUntilAstray_16 rfl (lv_at hl 1 rfl) ?_
    obtain ⟨g17, h⟩ := grd_s h
    refine k_iald hx hb hK hM 4 rfl g17 dX2_coinsUntilAstray_17 ?_
    obtain ⟨r18, e18, h⟩ := bind_s h
    refine k_cI (va_runV (As := [.int (G 4 p1.toNatClampNeg)]) (rest := [.int (40 : Int32)]) ⟨hx, hb, hml, hown, hts⟩ (kX2_coinsIn l D cI cR q G K (G 4 p1.toNatClampNeg) r18 e18) (cwV 1 hts gX2_coinsUntilAstray_X2_coinsIn rfl rfl rfl (by decide +kernel) ⟨Nat.le_of_ble_eq_true rfl, Nat.le_of_ble_eq_true rfl⟩) (mPreV hK hM 1 rfl rfl) rfl rfl hl.1 rfl (lv_room (Nat.le_of_ble_eq_true rfl)) dX2_coinsUntilAstray_18 ⟨Nat.le_of_ble_eq_true rfl, Nat.le_of_ble_eq_true rfl⟩) hS hM (fun H locs hM hS => ?_)
    refine lv_isub hx hb dX2_coinsUntilAstray_21 ?_
    refine lv_goto (tgt := 26) hx hb dX2_coinsUntilAstray_22 (by decide) ?_
    exact W.iret (v := ((40 : Int32) - r18)) hx hb hr (fun t ht hW => ⟨⟨((40 : Int32) - r18), (), rfl, Option.some.inj h, trivial⟩, hS.F ht⟩) hS.2.2 dX2_coinsUntilAstray_26
