set_option maxHeartbeats 8000000 in
set_option maxRecDepth 100000 in
theorem kL_isStep (l : Launch) (D : va_G) (cI cR : ClassId) (q1 q2 : Nat → Nat) (hJ : J2 q1 q2) (K : Nat) (G : (Nat → Nat → Int32)) (P : (Nat → Nat → Int32)) (p3 : Int32) (r : ((Nat → Nat → Int32) × (Nat → Nat → Int32))) (hs : sL_isStep K G P p3 = some r) : Met l yL_isStep wsL_isStep ({ frames := 5, cells := 0, slots := 0, locals := 133 } : Room) (lPre2 [.ref (q1 0), .ref (q2 0), .int p3] D cI cR q1 q2 G P) (mW2 D cI cR q1 q2 r) 0 0 (M2 q1 q2) := by
  refine Met.ofW (cc := cL_isStep) (maxL := 10) (ret := (some .boolean)) (by decide) rfl ?_
  intro p e s m args below meth c s₁ B hml hv
  obtain ⟨hargs, hW, hK⟩ := hv
  have hx := B.exec
  have hb := B.bytes
  have hr := B.returns
  have hts := atoms_spec (ws := wsL_isStep) B.pre
  have hown : s.vm.findClass RL = some m.cls := findClass_of_methodNamed B.named
  have hlocks := B.notSynchronized
  have hS : va_S (M2 q1 q2) s.heap s.heap [] := va_S.rf
  have hA : ∀ a, M2 q1 q2 a → M2 q1 q2 a := fun _ h => h
  have L319 : ∀ (n : Nat), ∀ (G1 P1 : Nat → Nat → Int32) (x5 : Int32) (x6 : Int32) (x7 : Int32) (x9 : Int32) (H : Heap) (locs : List Loc) (ls : Array Slot), sL_isStep_L319 K p3 n G1 P1 x5 x6 x7 x9 = some r → W2 D cI cR q1 q2 G1 P1 H → va_S (M2 q1 q2) s.heap H locs → lv_has ls 10 [(0, .ref (q1 0)), (1, .ref (q2 0)), (5, .int x5), (6, .int x6), (7, .int x7), (8, .int (1 : Int32)), (9, .int x9)] → W p l e (headSpec wsL_isStep ({ frames := 5, cells := 0, slots := 0, locals := 133 } : Room)).room s m args below meth c H locs 0 0 (MQ below (mW2 D cI cR q1 q2 r) args s 0 0 (M2 q1 q2)) (F0 m 319 ls []) := by
    clear hW hS
    intro n
    induction n with
    | zero => exact fun _ _ _ _ _ _ _ _ _ h => absurd h (by simp [sL_isStep_L319])
    | succ n ih =>
      intro G1 P1 x5 x6 x7 x9 H locs ls h hW hS hl
      rw [sL_isStep_L319] at h
      refine lv_iload hx hb dL_isStep_319 (lv_at hl 6 rfl) ?_
      refine lv_iload hx hb dL_isStep_321 (lv_at hl 4 rfl) ?_
      refine lv_icmp_ge (tgt := 365) hx hb dL_isStep_323 (by decide) (fun c323 => ?_) (fun c323 => ?_)
      · replace h := ite_t h c323
        refine lv_iload hx hb dL_isStep_365 (lv_at hl 5 rfl) ?_
        have h := Option.some.inj h
        exact W.zret (ty := .boolean) (v := (1 : Int32)) hx hb hr rfl (fun t ht hV => ⟨⟨(1 : Int32), (), rfl, rfl, w2_end ht hW (p_fst h) (p_snd h)⟩, hS.F ht⟩) hS.2.2 dL_isStep_367
      · replace h := ite_f h c323
        refine lv_iload hx hb dL_isStep_326 (lv_at hl 5 rfl) ?_
        refine lv_if_eq (tgt := 356) hx hb dL_isStep_328 (by decide) (fun c => absurd c (by decide)) (fun _ => ?_)
        refine lv_aload_n hx hb dL_isStep_331 rfl (lv_at hl 0 rfl) ?_
        refine lv_iload hx hb dL_isStep_332 (lv_at hl 2 rfl) ?_
        refine lv_iload hx hb dL_isStep_334 (lv_at hl 3 rfl) ?_
        obtain ⟨r336, e336, h⟩ := bind_s h
        refine k2_cW1 hJ (va_runV (As := [.int x5, .int x6]) (rest := []) ⟨hx, hb, hml, hown, hts⟩ (kX3_feed l D cI cR q1 G1 K x5 x6 hJ.1 r336 e336) (cwV 2 hts gL_isStep_X3_feed rfl rfl rfl (by decide +kernel) ⟨Nat.le_of_ble_eq_true rfl, Nat.le_of_ble_eq_true rfl⟩) (mPreV hK hW.1 0 rfl rfl) rfl rfl hl.1 rfl (lv_room (Nat.le_of_ble_eq_true rfl)) dL_isStep_336 ⟨Nat.le_of_ble_eq_true rfl, Nat.le_of_ble_eq_true rfl⟩) hS hA hW (fun H locs hW hS => ?_)
        refine lv_aload_n hx hb dL_isStep_339 rfl (lv_at hl 1 rfl) ?_
        refine lv_iconst (v := 3) hx hb dL_isStep_340 (by decide) ?_
        refine lv_iload hx hb dL_isStep_341 (lv_at hl 2 rfl) ?_
        refine lv_isub hx hb dL_isStep_343 ?_
        refine lv_iload hx hb dL_isStep_344 (lv_at hl 3 rfl) ?_
        obtain ⟨r346, e346, h⟩ := bind_s h
        refine k2_cW2 hJ (va_runV (As := [.int ((3 : Int32) - x5), .int x6]) (rest := [.int r336.1]) ⟨hx, hb, hml, hown, hts⟩ (kX3_feed l D cI cR q2 P1 K ((3 : Int32) - x5) x6 hJ.2.1 r346 e346) (cwV 2 hts gL_isStep_X3_feed rfl rfl rfl (by decide +kernel) ⟨Nat.le_of_ble_eq_true rfl, Nat.le_of_ble_eq_true rfl⟩) (mPreV hK hW.2 0 rfl rfl) rfl rfl hl.1 rfl (lv_room (Nat.le_of_ble_eq_true rfl)) dL_isStep_346 ⟨Nat.le_of_ble_eq_true rfl, Nat.le_of_ble_eq_true rfl⟩) hS hA hW (fun H locs hW hS => ?_)
        obtain ⟨g349, h⟩ := grd_s h
        refine lv_icmp_ne (tgt := 356) hx hb dL_isStep_349 (by decide) (fun c => absurd (of_decide_eq_true g349) c) (fun _ => ?_)
        refine lv_iconst (v := 1) hx hb dL_isStep_352 (by decide) ?_
        refine lv_goto (tgt := 357) hx hb dL_isStep_353 (by decide) ?_
        refine lv_istore (lv' := [(8, .int (1 : Int32)), (0, .ref (q1 0)), (1, .ref (q2 0)), (5, .int x5), (6, .int x6), (7, .int x7), (9, .int x9)]) hx hb dL_isStep_357 hl (by decide) rfl (fun ls hl => ?_)
        refine lv_iinc (v := (x9 + 1)) (lv' := [(9, .int (x9 + 1)), (8, .int (1 : Int32)), (0, .ref (q1 0)), (1, .ref (q2 0)), (5, .int x5), (6, .int x6), (7, .int x7)]) hx hb dL_isStep_359 hl (k := 6) rfl (congrArg (fun z : Int32 => x9 + z) (show Int32.ofInt (1) = 1 by decide)) (by decide) rfl (fun ls hl => ?_)
        refine lv_goto (tgt := 319) hx hb dL_isStep_362 (by decide) ?_
        exact ih r336.2 r346.2 x5 x6 x7 (x9 + 1) _ _ _ h hW hS (lv_sub hl [2, 3, 4, 5, 6, 1, 0] rfl)
  subst hargs
  have hl := lv_entry ([.ref (q1 0), .ref (q2 0), .int p3]) (n := 10) (Nat.le_of_ble_eq_true rfl)
  rw [lg_entry_eq]
  generalize (lg_sl ([.ref (q1 0), .ref (q2 0), .int p3]) ++ List.replicate (10 - (lg_sl ([.ref (q1 0), .ref (q2 0), .int p3])).length) Slot.unset).toArray = ls at hl ⊢
  have hl : lv_has ls 10 [(0, .ref (q1 0)), (1, .ref (q2 0)), (2, .int p3)] := hl
  have h := hs
  unfold sL_isStep at h
  refine lv_iload_n hx hb dL_isStep_0 rfl (lv_at hl 2 rfl) ?_
  refine lv_iconst (v := 4) hx hb dL_isStep_1 (by decide) ?_
  refine lv_ishr hx hb dL_isStep_2 ?_
  refine lv_istore_n (lv' := [(3, .int (p3 >>> ((4 : Int32) &&& 31))), (0, .ref (q1 0)), (1, .ref (q2 0)), (2, .int p3)]) hx hb dL_isStep_3 rfl hl (by decide) rfl (fun ls hl => ?_)
  refine lv_iload_n hx hb dL_isStep_4 rfl (lv_at hl 0 rfl) ?_
  refine lv_bipush (v := 6) hx hb dL_isStep_5 (by decide) ?_
  obtain ⟨r7, e7, h⟩ := bind_s h
  refine k2_cI (va_runS (As := [.int (p3 >>> ((4 : Int32) &&& 31)), .int (6 : Int32)]) (rest := []) ⟨hx, hb, hml, hown, hts⟩ (kL_up l K (p3 >>> ((4 : Int32) &&& 31)) (6 : Int32) r7 e7) (va_cwS 2 hts gL_isStep_L_up rfl rfl rfl (by decide +kernel) ⟨Nat.le_of_ble_eq_true rfl, Nat.le_of_ble_eq_true rfl⟩) uPreS rfl rfl hl.1 rfl (lv_room (Nat.le_of_ble_eq_true rfl)) dL_isStep_7 ⟨Nat.le_of_ble_eq_true rfl, Nat.le_of_ble_eq_true rfl⟩) hS hW (fun H locs hW hS => ?_)
  refine lv_istore (lv' := [(4, .int r7), (3, .int (p3 >>> ((4 : Int32) &&& 31))), (0, .ref (q1 0)), (1, .ref (q2 0)), (2, .int p3)]) hx hb dL_isStep_10 hl (by decide) rfl (fun ls hl => ?_)
  refine lv_iload_n hx hb dL_isStep_12 rfl (lv_at hl 1 rfl) ?_
  refine lv_iconst (v := 3) hx hb dL_isStep_13 (by decide) ?_
  refine lv_ishr hx hb dL_isStep_14 ?_
  refine lv_iconst (v := 3) hx hb dL_isStep_15 (by decide) ?_
  refine lv_iand hx hb dL_isStep_16 ?_
  refine lv_istore (lv' := [(5, .int (((p3 >>> ((4 : Int32) &&& 31)) >>> ((3 : Int32) &&& 31)) &&& (3 : Int32))), (4, .int r7), (3, .int (p3 >>> ((4 : Int32) &&& 31))), (0, .ref (q1 0)), (1, .ref (q2 0)), (2, .int p3)]) hx hb dL_isStep_17 hl (by decide) rfl (fun ls hl => ?_)
  refine lv_iload_n hx hb dL_isStep_19 rfl (lv_at hl 5 rfl) ?_
  refine lv_bipush (v := 14) hx hb dL_isStep_20 (by decide) ?_
  obtain ⟨r22, e22, h⟩ := bind_s h
  refine k2_cI (va_runS (As := [.int p3, .int (14 : Int32)]) (rest := []) ⟨hx, hb, hml, hown, hts⟩ (kL_up l K p3 (14 : Int32) r22 e22) (va_cwS 2 hts gL_isStep_L_up rfl rfl rfl (by decide +kernel) ⟨Nat.le_of_ble_eq_true rfl, Nat.le_of_ble_eq_true rfl⟩) uPreS rfl rfl hl.1 rfl (lv_room (Nat.le_of_ble_eq_true rfl)) dL_isStep_22 ⟨Nat.le_of_ble_eq_true rfl, Nat.le_of_ble_eq_true rfl⟩) hS hW (fun H locs hW hS => ?_)
  rcases Decidable.em (r22 = (0 : Int32)) with c25_0 | c25_0
  · replace h := ite_t h c25_0
    refine lv_tableIn (off := 35) (tgt := 60) hx hb dL_isStep_25 (by rw [c25_0]; decide) (by rw [c25_0]; decide) (by rw [c25_0]; rfl) (by decide) ?_
    refine lv_iload_n hx hb dL_isStep_60 rfl (lv_at hl 2 rfl) ?_
    refine lv_iconst (v := 5) hx hb dL_isStep_61 (by decide) ?_
    refine lv_ishr hx hb dL_isStep_62 ?_
    refine lv_iconst (v := 2) hx hb dL_isStep_63 (by decide) ?_
    obtain ⟨r64, e64, h⟩ := bind_s h
    refine k2_cI (va_runS (As := [.int ((p3 >>> ((4 : Int32) &&& 31)) >>> ((5 : Int32) &&& 31)), .int (2 : Int32)]) (rest := []) ⟨hx, hb, hml, hown, hts⟩ (kL_up l K ((p3 >>> ((4 : Int32) &&& 31)) >>> ((5 : Int32) &&& 31)) (2 : Int32) r64 e64) (va_cwS 2 hts gL_isStep_L_up rfl rfl rfl (by decide +kernel) ⟨Nat.le_of_ble_eq_true rfl, Nat.le_of_ble_eq_true rfl⟩) uPreS rfl rfl hl.1 rfl (lv_room (Nat.le_of_ble_eq_true rfl)) dL_isStep_64 ⟨Nat.le_of_ble_eq_true rfl, Nat.le_of_ble_eq_true rfl⟩) hS hW (fun H locs hW hS => ?_)
    refine lv_if_ne (tgt := 92) hx hb dL_isStep_67 (by decide) (fun c67 => ?_) (fun c67 => ?_)
    · replace h := ite_f h c67
      refine lv_sipush (v := 900) hx hb dL_isStep_92 (by decide) ?_
      refine lv_iload_n hx hb dL_isStep_95 rfl (lv_at hl 2 rfl) ?_
      refine lv_bipush (v := 7) hx hb dL_isStep_96 (by decide) ?_
      refine lv_ishr hx hb dL_isStep_98 ?_
      refine lv_sipush (v := 3201) hx hb dL_isStep_99 (by decide) ?_
      obtain ⟨r102, e102, h⟩ := bind_s h
      refine k2_cI (va_runS (As := [.int ((p3 >>> ((4 : Int32) &&& 31)) >>> ((7 : Int32) &&& 31)), .int (3201 : Int32)]) (rest := [.int (900 : Int32)]) ⟨hx, hb, hml, hown, hts⟩ (kL_up l K ((p3 >>> ((4 : Int32) &&& 31)) >>> ((7 : Int32) &&& 31)) (3201 : Int32) r102 e102) (va_cwS 2 hts gL_isStep_L_up rfl rfl rfl (by decide +kernel) ⟨Nat.le_of_ble_eq_true rfl, Nat.le_of_ble_eq_true rfl⟩) uPreS rfl rfl hl.1 rfl (lv_room (Nat.le_of_ble_eq_true rfl)) dL_isStep_102 ⟨Nat.le_of_ble_eq_true rfl, Nat.le_of_ble_eq_true rfl⟩) hS hW (fun H locs hW hS => ?_)
      refine lv_iadd hx hb dL_isStep_105 ?_
      refine lv_istore (lv' := [(6, .int ((900 : Int32) + r102)), (5, .int (((p3 >>> ((4 : Int32) &&& 31)) >>> ((3 : Int32) &&& 31)) &&& (3 : Int32))), (4, .int r7), (3, .int (p3 >>> ((4 : Int32) &&& 31))), (0, .ref (q1 0)), (1, .ref (q2 0)), (2, .int p3)]) hx hb dL_isStep_106 hl (by decide) rfl (fun ls hl => ?_)
      refine lv_iload hx hb dL_isStep_108 (lv_at hl 0 rfl) ?_
      refine lv_sipush (v := 4100) hx hb dL_isStep_110 (by decide) ?_
      refine lv_icmp_le (tgt := 122) hx hb dL_isStep_113 (by decide) (fun c113 => ?_) (fun c113 => ?_)
      · replace h := ite_t h c113
        refine lv_iload hx hb dL_isStep_122 (lv_at hl 0 rfl) ?_
        refine lv_istore (lv' := [(6, .int ((900 : Int32) + r102)), (5, .int (((p3 >>> ((4 : Int32) &&& 31)) >>> ((3 : Int32) &&& 31)) &&& (3 : Int32))), (4, .int r7), (3, .int (p3 >>> ((4 : Int32) &&& 31))), (0, .ref (q1 0)), (1, .ref (q2 0)), (2, .int p3)]) hx hb dL_isStep_124 hl (by decide) rfl (fun ls hl => ?_)
        refine lv_aload_n hx hb dL_isStep_126 rfl (lv_at hl 4 rfl) ?_
        refine lv_iload hx hb dL_isStep_127 (lv_at hl 2 rfl) ?_
        refine lv_iconst (v := 3) hx hb dL_isStep_129 (by decide) ?_
        obtain ⟨r130, e130, h⟩ := bind_s h
        refine k2_cI (va_runV (As := [.int r7, .int (3 : Int32)]) (rest := []) ⟨hx, hb, hml, hown, hts⟩ (kX3_rail l D cI cR q1 G K r7 (3 : Int32) r130 e130) (cwV 2 hts gL_isStep_X3_rail rfl rfl rfl (by decide +kernel) ⟨Nat.le_of_ble_eq_true rfl, Nat.le_of_ble_eq_true rfl⟩) (mPreV hK hW.1 0 rfl rfl) rfl rfl hl.1 rfl (lv_room (Nat.le_of_ble_eq_true rfl)) dL_isStep_130 ⟨Nat.le_of_ble_eq_true rfl, Nat.le_of_ble_eq_true rfl⟩) hS hW (fun H locs hW hS => ?_)
        refine lv_if_ge (tgt := 155) hx hb dL_isStep_133 (by decide) (fun c133 => ?_) (fun c133 => ?_)
        · replace h := ite_t h c133
          refine lv_iconst (v := 1) hx hb dL_isStep_155 (by decide) ?_
          refine lv_goto (tgt := 160) hx hb dL_isStep_156 (by decide) ?_
          have h := Option.some.inj h
          exact W.zret (ty := .boolean) (v := (1 : Int32)) hx hb hr rfl (fun t ht hV => ⟨⟨(1 : Int32), (), rfl, rfl, w2_end ht hW (p_fst h) (p_snd h)⟩, hS.F ht⟩) hS.2.2 dL_isStep_160
        · replace h := ite_f h c133
          refine lv_aload_n hx hb dL_isStep_136 rfl (lv_at hl 4 rfl) ?_
          refine lv_iload hx hb dL_isStep_137 (lv_at hl 2 rfl) ?_
          refine lv_iload hx hb dL_isStep_139 (lv_at hl 0 rfl) ?_
          obtain ⟨r141, e141, h⟩ := bind_s h
          refine k2_cW1 hJ (va_runV (As := [.int r7, .int ((900 : Int32) + r102)]) (rest := []) ⟨hx, hb, hml, hown, hts⟩ (kX3_setGap l D cI cR q1 G K r7 ((900 : Int32) + r102) hJ.1 r141 e141) (cwV 2 hts gL_isStep_X3_setGap rfl rfl rfl (by decide +kernel) ⟨Nat.le_of_ble_eq_true rfl, Nat.le_of_ble_eq_true rfl⟩) (mPreV hK hW.1 0 rfl rfl) rfl rfl hl.1 rfl (lv_room (Nat.le_of_ble_eq_true rfl)) dL_isStep_141 ⟨Nat.le_of_ble_eq_true rfl, Nat.le_of_ble_eq_true rfl⟩) hS hA hW (fun H locs hW hS => ?_)
          refine lv_aload_n hx hb dL_isStep_144 rfl (lv_at hl 5 rfl) ?_
          refine lv_iload hx hb dL_isStep_145 (lv_at hl 2 rfl) ?_
          refine lv_iload hx hb dL_isStep_147 (lv_at hl 0 rfl) ?_
          obtain ⟨r149, e149, h⟩ := bind_s h
          refine k2_cW2 hJ (va_runV (As := [.int r7, .int ((900 : Int32) + r102)]) (rest := [.int r141.1]) ⟨hx, hb, hml, hown, hts⟩ (kX3_setGap l D cI cR q2 P K r7 ((900 : Int32) + r102) hJ.2.1 r149 e149) (cwV 2 hts gL_isStep_X3_setGap rfl rfl rfl (by decide +kernel) ⟨Nat.le_of_ble_eq_true rfl, Nat.le_of_ble_eq_true rfl⟩) (mPreV hK hW.2 0 rfl rfl) rfl rfl hl.1 rfl (lv_room (Nat.le_of_ble_eq_true rfl)) dL_isStep_149 ⟨Nat.le_of_ble_eq_true rfl, Nat.le_of_ble_eq_true rfl⟩) hS hA hW (fun H locs hW hS => ?_)
          obtain ⟨g152, h⟩ := grd_s h
          refine lv_icmp_ne (tgt := 159) hx hb dL_isStep_152 (by decide) (fun c => absurd (of_decide_eq_true g152) c) (fun _ => ?_)
          refine lv_iconst (v := 1) hx hb dL_isStep_155 (by decide) ?_
          refine lv_goto (tgt := 160) hx hb dL_isStep_156 (by decide) ?_
          have h := Option.some.inj h
          exact W.zret (ty := .boolean) (v := (1 : Int32)) hx hb hr rfl (fun t ht hV => ⟨⟨(1 : Int32), (), rfl, rfl, w2_end ht hW (p_fst h) (p_snd h)⟩, hS.F ht⟩) hS.2.2 dL_isStep_160
      · replace h := ite_f h c113
        refine lv_sipush (v := 4100) hx hb dL_isStep_116 (by decide) ?_
        refine lv_goto (tgt := 124) hx hb dL_isStep_119 (by decide) ?_
        refine lv_istore (lv' := [(6, .int (4100 : Int32)), (5, .int (((p3 >>> ((4 : Int32) &&& 31)) >>> ((3 : Int32) &&& 31)) &&& (3 : Int32))), (4, .int r7), (3, .int (p3 >>> ((4 : Int32) &&& 31))), (0, .ref (q1 0)), (1, .ref (q2 0)), (2, .int p3)]) hx hb dL_isStep_124 hl (by decide) rfl (fun ls hl => ?_)
        refine lv_aload_n hx hb dL_isStep_126 rfl (lv_at hl 4 rfl) ?_
        refine lv_iload hx hb dL_isStep_127 (lv_at hl 2 rfl) ?_
        refine lv_iconst (v := 3) hx hb dL_isStep_129 (by decide) ?_
        obtain ⟨r130, e130, h⟩ := bind_s h
        refine k2_cI (va_runV (As := [.int r7, .int (3 : Int32)]) (rest := []) ⟨hx, hb, hml, hown, hts⟩ (kX3_rail l D cI cR q1 G K r7 (3 : Int32) r130 e130) (cwV 2 hts gL_isStep_X3_rail rfl rfl rfl (by decide +kernel) ⟨Nat.le_of_ble_eq_true rfl, Nat.le_of_ble_eq_true rfl⟩) (mPreV hK hW.1 0 rfl rfl) rfl rfl hl.1 rfl (lv_room (Nat.le_of_ble_eq_true rfl)) dL_isStep_130 ⟨Nat.le_of_ble_eq_true rfl, Nat.le_of_ble_eq_true rfl⟩) hS hW (fun H locs hW hS => ?_)
        refine lv_if_ge (tgt := 155) hx hb dL_isStep_133 (by decide) (fun c133 => ?_) (fun c133 => ?_)
        · replace h := ite_t h c133
          refine lv_iconst (v := 1) hx hb dL_isStep_155 (by decide) ?_
          refine lv_goto (tgt := 160) hx hb dL_isStep_156 (by decide) ?_
          have h := Option.some.inj h
          exact W.zret (ty := .boolean) (v := (1 : Int32)) hx hb hr rfl (fun t ht hV => ⟨⟨(1 : Int32), (), rfl, rfl, w2_end ht hW (p_fst h) (p_snd h)⟩, hS.F ht⟩) hS.2.2 dL_isStep_160
        · replace h := ite_f h c133
          refine lv_aload_n hx hb dL_isStep_136 rfl (lv_at hl 4 rfl) ?_
          refine lv_iload hx hb dL_isStep_137 (lv_at hl 2 rfl) ?_
          refine lv_iload hx hb dL_isStep_139 (lv_at hl 0 rfl) ?_
          obtain ⟨r141, e141, h⟩ := bind_s h
          refine k2_cW1 hJ (va_runV (As := [.int r7, .int (4100 : Int32)]) (rest := []) ⟨hx, hb, hml, hown, hts⟩ (kX3_setGap l D cI cR q1 G K r7 (4100 : Int32) hJ.1 r141 e141) (cwV 2 hts gL_isStep_X3_setGap rfl rfl rfl (by decide +kernel) ⟨Nat.le_of_ble_eq_true rfl, Nat.le_of_ble_eq_true rfl⟩) (mPreV hK hW.1 0 rfl rfl) rfl rfl hl.1 rfl (lv_room (Nat.le_of_ble_eq_true rfl)) dL_isStep_141 ⟨Nat.le_of_ble_eq_true rfl, Nat.le_of_ble_eq_true rfl⟩) hS hA hW (fun H locs hW hS => ?_)
          refine lv_aload_n hx hb dL_isStep_144 rfl (lv_at hl 5 rfl) ?_
          refine lv_iload hx hb dL_isStep_145 (lv_at hl 2 rfl) ?_
          refine lv_iload hx hb dL_isStep_147 (lv_at hl 0 rfl) ?_
          obtain ⟨r149, e149, h⟩ := bind_s h
          refine k2_cW2 hJ (va_runV (As := [.int r7, .int (4100 : Int32)]) (rest := [.int r141.1]) ⟨hx, hb, hml, hown, hts⟩ (kX3_setGap l D cI cR q2 P K r7 (4100 : Int32) hJ.2.1 r149 e149) (cwV 2 hts gL_isStep_X3_setGap rfl rfl rfl (by decide +kernel) ⟨Nat.le_of_ble_eq_true rfl, Nat.le_of_ble_eq_true rfl⟩) (mPreV hK hW.2 0 rfl rfl) rfl rfl hl.1 rfl (lv_room (Nat.le_of_ble_eq_true rfl)) dL_isStep_149 ⟨Nat.le_of_ble_eq_true rfl, Nat.le_of_ble_eq_true rfl⟩) hS hA hW (fun H locs hW hS => ?_)
          obtain ⟨g152, h⟩ := grd_s h
          refine lv_icmp_ne (tgt := 159) hx hb dL_isStep_152 (by decide) (fun c => absurd (of_decide_eq_true g152) c) (fun _ => ?_)
          refine lv_iconst (v := 1) hx hb dL_isStep_155 (by decide) ?_
          refine lv_goto (tgt := 160) hx hb dL_isStep_156 (by decide) ?_
          have h := Option.some.inj h
          exact W.zret (ty := .boolean) (v := (1 : Int32)) hx hb hr rfl (fun t ht hV => ⟨⟨(1 : Int32), (), rfl, rfl, w2_end ht hW (p_fst h) (p_snd h)⟩, hS.F ht⟩) hS.2.2 dL_isStep_160
    · replace h := ite_t h c67
      refine lv_aload_n hx hb dL_isStep_70 rfl (lv_at hl 3 rfl) ?_
      refine lv_iload hx hb dL_isStep_71 (lv_at hl 0 rfl) ?_
      refine lv_iconst (v := 0) hx hb dL_isStep_73 (by decide) ?_
      obtain ⟨r74, e74, h⟩ := bind_s h
      refine k2_cI (va_runV (As := [.int (((p3 >>> ((4 : Int32) &&& 31)) >>> ((3 : Int32) &&& 31)) &&& (3 : Int32)), .int (0 : Int32)]) (rest := []) ⟨hx, hb, hml, hown, hts⟩ (kX3_kind l D cI cR q1 G K (((p3 >>> ((4 : Int32) &&& 31)) >>> ((3 : Int32) &&& 31)) &&& (3 : Int32)) (0 : Int32) r74 e74) (cwV 2 hts gL_isStep_X3_kind rfl rfl rfl (by decide +kernel) ⟨Nat.le_of_ble_eq_true rfl, Nat.le_of_ble_eq_true rfl⟩) (mPreV hK hW.1 0 rfl rfl) rfl rfl hl.1 rfl (lv_room (Nat.le_of_ble_eq_true rfl)) dL_isStep_74 ⟨Nat.le_of_ble_eq_true rfl, Nat.le_of_ble_eq_true rfl⟩) hS hW (fun H locs hW hS => ?_)
      refine lv_iload_n hx hb dL_isStep_77 rfl (lv_at hl 2 rfl) ?_
      refine lv_bipush (v := 7) hx hb dL_isStep_78 (by decide) ?_
      refine lv_ishr hx hb dL_isStep_80 ?_
      refine lv_bipush (v := 12) hx hb dL_isStep_81 (by decide) ?_
      obtain ⟨r83, e83, h⟩ := bind_s h
      refine k2_cI (va_runS (As := [.int ((p3 >>> ((4 : Int32) &&& 31)) >>> ((7 : Int32) &&& 31)), .int (12 : Int32)]) (rest := [.int r74]) ⟨hx, hb, hml, hown, hts⟩ (kL_up l K ((p3 >>> ((4 : Int32) &&& 31)) >>> ((7 : Int32) &&& 31)) (12 : Int32) r83 e83) (va_cwS 2 hts gL_isStep_L_up rfl rfl rfl (by decide +kernel) ⟨Nat.le_of_ble_eq_true rfl, Nat.le_of_ble_eq_true rfl⟩) uPreS rfl rfl hl.1 rfl (lv_room (Nat.le_of_ble_eq_true rfl)) dL_isStep_83 ⟨Nat.le_of_ble_eq_true rfl, Nat.le_of_ble_eq_true rfl⟩) hS hW (fun H locs hW hS => ?_)
      refine lv_iadd hx hb dL_isStep_86 ?_
      refine lv_iconst (v := 2) hx hb dL_isStep_87 (by decide) ?_
      refine lv_isub hx hb dL_isStep_88 ?_
      refine lv_goto (tgt := 106) hx hb dL_isStep_89 (by decide) ?_
      refine lv_istore (lv' := [(6, .int ((r74 + r83) - (2 : Int32))), (5, .int (((p3 >>> ((4 : Int32) &&& 31)) >>> ((3 : Int32) &&& 31)) &&& (3 : Int32))), (4, .int r7), (3, .int (p3 >>> ((4 : Int32) &&& 31))), (0, .ref (q1 0)), (1, .ref (q2 0)), (2, .int p3)]) hx hb dL_isStep_106 hl (by decide) rfl (fun ls hl => ?_)
      refine lv_iload hx hb dL_isStep_108 (lv_at hl 0 rfl) ?_
      refine lv_sipush (v := 4100) hx hb dL_isStep_110 (by decide) ?_
      refine lv_icmp_le (tgt := 122) hx hb dL_isStep_113 (by decide) (fun c113 => ?_) (fun c113 => ?_)
      · replace h := ite_t h c113
        refine lv_iload hx hb dL_isStep_122 (lv_at hl 0 rfl) ?_
        refine lv_istore (lv' := [(6, .int ((r74 + r83) - (2 : Int32))), (5, .int (((p3 >>> ((4 : Int32) &&& 31)) >>> ((3 : Int32) &&& 31)) &&& (3 : Int32))), (4, .int r7), (3, .int (p3 >>> ((4 : Int32) &&& 31))), (0, .ref (q1 0)), (1, .ref (q2 0)), (2, .int p3)]) hx hb dL_isStep_124 hl (by decide) rfl (fun ls hl => ?_)
        refine lv_aload_n hx hb dL_isStep_126 rfl (lv_at hl 4 rfl) ?_
        refine lv_iload hx hb dL_isStep_127 (lv_at hl 2 rfl) ?_
        refine lv_iconst (v := 3) hx hb dL_isStep_129 (by decide) ?_
        obtain ⟨r130, e130, h⟩ := bind_s h
        refine k2_cI (va_runV (As := [.int r7, .int (3 : Int32)]) (rest := []) ⟨hx, hb, hml, hown, hts⟩ (kX3_rail l D cI cR q1 G K r7 (3 : Int32) r130 e130) (cwV 2 hts gL_isStep_X3_rail rfl rfl rfl (by decide +kernel) ⟨Nat.le_of_ble_eq_true rfl, Nat.le_of_ble_eq_true rfl⟩) (mPreV hK hW.1 0 rfl rfl) rfl rfl hl.1 rfl (lv_room (Nat.le_of_ble_eq_true rfl)) dL_isStep_130 ⟨Nat.le_of_ble_eq_true rfl, Nat.le_of_ble_eq_true rfl⟩) hS hW (fun H locs hW hS => ?_)
        refine lv_if_ge (tgt := 155) hx hb dL_isStep_133 (by decide) (fun c133 => ?_) (fun c133 => ?_)
        · replace h := ite_t h c133
          refine lv_iconst (v := 1) hx hb dL_isStep_155 (by decide) ?_
          refine lv_goto (tgt := 160) hx hb dL_isStep_156 (by decide) ?_
          have h := Option.some.inj h
          exact W.zret (ty := .boolean) (v := (1 : Int32)) hx hb hr rfl (fun t ht hV => ⟨⟨(1 : Int32), (), rfl, rfl, w2_end ht hW (p_fst h) (p_snd h)⟩, hS.F ht⟩) hS.2.2 dL_isStep_160
        · replace h := ite_f h c133
          refine lv_aload_n hx hb dL_isStep_136 rfl (lv_at hl 4 rfl) ?_
          refine lv_iload hx hb dL_isStep_137 (lv_at hl 2 rfl) ?_
          refine lv_iload hx hb dL_isStep_139 (lv_at hl 0 rfl) ?_
          obtain ⟨r141, e141, h⟩ := bind_s h
          refine k2_cW1 hJ (va_runV (As := [.int r7, .int ((r74 + r83) - (2 : Int32))]) (rest := []) ⟨hx, hb, hml, hown, hts⟩ (kX3_setGap l D cI cR q1 G K r7 ((r74 + r83) - (2 : Int32)) hJ.1 r141 e141) (cwV 2 hts gL_isStep_X3_setGap rfl rfl rfl (by decide +kernel) ⟨Nat.le_of_ble_eq_true rfl, Nat.le_of_ble_eq_true rfl⟩) (mPreV hK hW.1 0 rfl rfl) rfl rfl hl.1 rfl (lv_room (Nat.le_of_ble_eq_true rfl)) dL_isStep_141 ⟨Nat.le_of_ble_eq_true rfl, Nat.le_of_ble_eq_true rfl⟩) hS hA hW (fun H locs hW hS => ?_)
          refine lv_aload_n hx hb dL_isStep_144 rfl (lv_at hl 5 rfl) ?_
          refine lv_iload hx hb dL_isStep_145 (lv_at hl 2 rfl) ?_
          refine lv_iload hx hb dL_isStep_147 (lv_at hl 0 rfl) ?_
          obtain ⟨r149, e149, h⟩ := bind_s h
          refine k2_cW2 hJ (va_runV (As := [.int r7, .int ((r74 + r83) - (2 : Int32))]) (rest := [.int r141.1]) ⟨hx, hb, hml, hown, hts⟩ (kX3_setGap l D cI cR q2 P K r7 ((r74 + r83) - (2 : Int32)) hJ.2.1 r149 e149) (cwV 2 hts gL_isStep_X3_setGap rfl rfl rfl (by decide +kernel) ⟨Nat.le_of_ble_eq_true rfl, Nat.le_of_ble_eq_true rfl⟩) (mPreV hK hW.2 0 rfl rfl) rfl rfl hl.1 rfl (lv_room (Nat.le_of_ble_eq_true rfl)) dL_isStep_149 ⟨Nat.le_of_ble_eq_true rfl, Nat.le_of_ble_eq_true rfl⟩) hS hA hW (fun H locs hW hS => ?_)
          obtain ⟨g152, h⟩ := grd_s h
          refine lv_icmp_ne (tgt := 159) hx hb dL_isStep_152 (by decide) (fun c => absurd (of_decide_eq_true g152) c) (fun _ => ?_)
          refine lv_iconst (v := 1) hx hb dL_isStep_155 (by decide) ?_
          refine lv_goto (tgt := 160) hx hb dL_isStep_156 (by decide) ?_
          have h := Option.some.inj h
          exact W.zret (ty := .boolean) (v := (1 : Int32)) hx hb hr rfl (fun t ht hV => ⟨⟨(1 : Int32), (), rfl, rfl, w2_end ht hW (p_fst h) (p_snd h)⟩, hS.F ht⟩) hS.2.2 dL_isStep_160
      · replace h := ite_f h c113
        refine lv_sipush (v := 4100) hx hb dL_isStep_116 (by decide) ?_
        refine lv_goto (tgt := 124) hx hb dL_isStep_119 (by decide) ?_
        refine lv_istore (lv' := [(6, .int (4100 : Int32)), (5, .int (((p3 >>> ((4 : Int32) &&& 31)) >>> ((3 : Int32) &&& 31)) &&& (3 : Int32))), (4, .int r7), (3, .int (p3 >>> ((4 : Int32) &&& 31))), (0, .ref (q1 0)), (1, .ref (q2 0)), (2, .int p3)]) hx hb dL_isStep_124 hl (by decide) rfl (fun ls hl => ?_)
        refine lv_aload_n hx hb dL_isStep_126 rfl (lv_at hl 4 rfl) ?_
        refine lv_iload hx hb dL_isStep_127 (lv_at hl 2 rfl) ?_
        refine lv_iconst (v := 3) hx hb dL_isStep_129 (by decide) ?_
        obtain ⟨r130, e130, h⟩ := bind_s h
        refine k2_cI (va_runV (As := [.int r7, .int (3 : Int32)]) (rest := []) ⟨hx, hb, hml, hown, hts⟩ (kX3_rail l D cI cR q1 G K r7 (3 : Int32) r130 e130) (cwV 2 hts gL_isStep_X3_rail rfl rfl rfl (by decide +kernel) ⟨Nat.le_of_ble_eq_true rfl, Nat.le_of_ble_eq_true rfl⟩) (mPreV hK hW.1 0 rfl rfl) rfl rfl hl.1 rfl (lv_room (Nat.le_of_ble_eq_true rfl)) dL_isStep_130 ⟨Nat.le_of_ble_eq_true rfl, Nat.le_of_ble_eq_true rfl⟩) hS hW (fun H locs hW hS => ?_)
        refine lv_if_ge (tgt := 155) hx hb dL_isStep_133 (by decide) (fun c133 => ?_) (fun c133 => ?_)
        · replace h := ite_t h c133
          refine lv_iconst (v := 1) hx hb dL_isStep_155 (by decide) ?_
          refine lv_goto (tgt := 160) hx hb dL_isStep_156 (by decide) ?_
          have h := Option.some.inj h
          exact W.zret (ty := .boolean) (v := (1 : Int32)) hx hb hr rfl (fun t ht hV => ⟨⟨(1 : Int32), (), rfl, rfl, w2_end ht hW (p_fst h) (p_snd h)⟩, hS.F ht⟩) hS.2.2 dL_isStep_160
        · replace h := ite_f h c133
          refine lv_aload_n hx hb dL_isStep_136 rfl (lv_at hl 4 rfl) ?_
          refine lv_iload hx hb dL_isStep_137 (lv_at hl 2 rfl) ?_
          refine lv_iload hx hb dL_isStep_139 (lv_at hl 0 rfl) ?_
          obtain ⟨r141, e141, h⟩ := bind_s h
          refine k2_cW1 hJ (va_runV (As := [.int r7, .int (4100 : Int32)]) (rest := []) ⟨hx, hb, hml, hown, hts⟩ (kX3_setGap l D cI cR q1 G K r7 (4100 : Int32) hJ.1 r141 e141) (cwV 2 hts gL_isStep_X3_setGap rfl rfl rfl (by decide +kernel) ⟨Nat.le_of_ble_eq_true rfl, Nat.le_of_ble_eq_true rfl⟩) (mPreV hK hW.1 0 rfl rfl) rfl rfl hl.1 rfl (lv_room (Nat.le_of_ble_eq_true rfl)) dL_isStep_141 ⟨Nat.le_of_ble_eq_true rfl, Nat.le_of_ble_eq_true rfl⟩) hS hA hW (fun H locs hW hS => ?_)
          refine lv_aload_n hx hb dL_isStep_144 rfl (lv_at hl 5 rfl) ?_
          refine lv_iload hx hb dL_isStep_145 (lv_at hl 2 rfl) ?_
          refine lv_iload hx hb dL_isStep_147 (lv_at hl 0 rfl) ?_
          obtain ⟨r149, e149, h⟩ := bind_s h
          refine k2_cW2 hJ (va_runV (As := [.int r7, .int (4100 : Int32)]) (rest := [.int r141.1]) ⟨hx, hb, hml, hown, hts⟩ (kX3_setGap l D cI cR q2 P K r7 (4100 : Int32) hJ.2.1 r149 e149) (cwV 2 hts gL_isStep_X3_setGap rfl rfl rfl (by decide +kernel) ⟨Nat.le_of_ble_eq_true rfl, Nat.le_of_ble_eq_true rfl⟩) (mPreV hK hW.2 0 rfl rfl) rfl rfl hl.1 rfl (lv_room (Nat.le_of_ble_eq_true rfl)) dL_isStep_149 ⟨Nat.le_of_ble_eq_true rfl, Nat.le_of_ble_eq_true rfl⟩) hS hA hW (fun H locs hW hS => ?_)
          obtain ⟨g152, h⟩ := grd_s h
          refine lv_icmp_ne (tgt := 159) hx hb dL_isStep_152 (by decide) (fun c => absurd (of_decide_eq_true g152) c) (fun _ => ?_)
          refine lv_iconst (v := 1) hx hb dL_isStep_155 (by decide) ?_
          refine lv_goto (tgt := 160) hx hb dL_isStep_156 (by decide) ?_
          have h := Option.some.inj h
          exact W.zret (ty := .boolean) (v := (1 : Int32)) hx hb hr rfl (fun t ht hV => ⟨⟨(1 : Int32), (), rfl, rfl, w2_end ht hW (p_fst h) (p_snd h)⟩, hS.F ht⟩) hS.2.2 dL_isStep_160
  · replace h := ite_f h c25_0
    rcases Decidable.em (r22 = (1 : Int32)) with c25_1 | c25_1
    · replace h := ite_t h c25_1
      refine lv_tableIn (off := 35) (tgt := 60) hx hb dL_isStep_25 (by rw [c25_1]; decide) (by rw [c25_1]; decide) (by rw [c25_1]; rfl) (by decide) ?_
      refine lv_iload_n hx hb dL_isStep_60 rfl (lv_at hl 2 rfl) ?_
      refine lv_iconst (v := 5) hx hb dL_isStep_61 (by decide) ?_
      refine lv_ishr hx hb dL_isStep_62 ?_
      refine lv_iconst (v := 2) hx hb dL_isStep_63 (by decide) ?_
      obtain ⟨r64, e64, h⟩ := bind_s h
      refine k2_cI (va_runS (As := [.int ((p3 >>> ((4 : Int32) &&& 31)) >>> ((5 : Int32) &&& 31)), .int (2 : Int32)]) (rest := []) ⟨hx, hb, hml, hown, hts⟩ (kL_up l K ((p3 >>> ((4 : Int32) &&& 31)) >>> ((5 : Int32) &&& 31)) (2 : Int32) r64 e64) (va_cwS 2 hts gL_isStep_L_up rfl rfl rfl (by decide +kernel) ⟨Nat.le_of_ble_eq_true rfl, Nat.le_of_ble_eq_true rfl⟩) uPreS rfl rfl hl.1 rfl (lv_room (Nat.le_of_ble_eq_true rfl)) dL_isStep_64 ⟨Nat.le_of_ble_eq_true rfl, Nat.le_of_ble_eq_true rfl⟩) hS hW (fun H locs hW hS => ?_)
      refine lv_if_ne (tgt := 92) hx hb dL_isStep_67 (by decide) (fun c67 => ?_) (fun c67 => ?_)
      · replace h := ite_f h c67
        refine lv_sipush (v := 900) hx hb dL_isStep_92 (by decide) ?_
        refine lv_iload_n hx hb dL_isStep_95 rfl (lv_at hl 2 rfl) ?_
        refine lv_bipush (v := 7) hx hb dL_isStep_96 (by decide) ?_
        refine lv_ishr hx hb dL_isStep_98 ?_
        refine lv_sipush (v := 3201) hx hb dL_isStep_99 (by decide) ?_
        obtain ⟨r102, e102, h⟩ := bind_s h
        refine k2_cI (va_runS (As := [.int ((p3 >>> ((4 : Int32) &&& 31)) >>> ((7 : Int32) &&& 31)), .int (3201 : Int32)]) (rest := [.int (900 : Int32)]) ⟨hx, hb, hml, hown, hts⟩ (kL_up l K ((p3 >>> ((4 : Int32) &&& 31)) >>> ((7 : Int32) &&& 31)) (3201 : Int32) r102 e102) (va_cwS 2 hts gL_isStep_L_up rfl rfl rfl (by decide +kernel) ⟨Nat.le_of_ble_eq_true rfl, Nat.le_of_ble_eq_true rfl⟩) uPreS rfl rfl hl.1 rfl (lv_room (Nat.le_of_ble_eq_true rfl)) dL_isStep_102 ⟨Nat.le_of_ble_eq_true rfl, Nat.le_of_ble_eq_true rfl⟩) hS hW (fun H locs hW hS => ?_)
        refine lv_iadd hx hb dL_isStep_105 ?_
        refine lv_istore (lv' := [(6, .int ((900 : Int32) + r102)), (5, .int (((p3 >>> ((4 : Int32) &&& 31)) >>> ((3 : Int32) &&& 31)) &&& (3 : Int32))), (4, .int r7), (3, .int (p3 >>> ((4 : Int32) &&& 31))), (0, .ref (q1 0)), (1, .ref (q2 0)), (2, .int p3)]) hx hb dL_isStep_106 hl (by decide) rfl (fun ls hl => ?_)
        refine lv_iload hx hb dL_isStep_108 (lv_at hl 0 rfl) ?_
        refine lv_sipush (v := 4100) hx hb dL_isStep_110 (by decide) ?_
        refine lv_icmp_le (tgt := 122) hx hb dL_isStep_113 (by decide) (fun c113 => ?_) (fun c113 => ?_)
        · replace h := ite_t h c113
          refine lv_iload hx hb dL_isStep_122 (lv_at hl 0 rfl) ?_
          refine lv_istore (lv' := [(6, .int ((900 : Int32) + r102)), (5, .int (((p3 >>> ((4 : Int32) &&& 31)) >>> ((3 : Int32) &&& 31)) &&& (3 : Int32))), (4, .int r7), (3, .int (p3 >>> ((4 : Int32) &&& 31))), (0, .ref (q1 0)), (1, .ref (q2 0)), (2, .int p3)]) hx hb dL_isStep_124 hl (by decide) rfl (fun ls hl => ?_)
          refine lv_aload_n hx hb dL_isStep_126 rfl (lv_at hl 4 rfl) ?_
          refine lv_iload hx hb dL_isStep_127 (lv_at hl 2 rfl) ?_
          refine lv_iconst (v := 3) hx hb dL_isStep_129 (by decide) ?_
          obtain ⟨r130, e130, h⟩ := bind_s h
          refine k2_cI (va_runV (As := [.int r7, .int (3 : Int32)]) (rest := []) ⟨hx, hb, hml, hown, hts⟩ (kX3_rail l D cI cR q1 G K r7 (3 : Int32) r130 e130) (cwV 2 hts gL_isStep_X3_rail rfl rfl rfl (by decide +kernel) ⟨Nat.le_of_ble_eq_true rfl, Nat.le_of_ble_eq_true rfl⟩) (mPreV hK hW.1 0 rfl rfl) rfl rfl hl.1 rfl (lv_room (Nat.le_of_ble_eq_true rfl)) dL_isStep_130 ⟨Nat.le_of_ble_eq_true rfl, Nat.le_of_ble_eq_true rfl⟩) hS hW (fun H locs hW hS => ?_)
          refine lv_if_ge (tgt := 155) hx hb dL_isStep_133 (by decide) (fun c133 => ?_) (fun c133 => ?_)
          · replace h := ite_t h c133
            refine lv_iconst (v := 1) hx hb dL_isStep_155 (by decide) ?_
            refine lv_goto (tgt := 160) hx hb dL_isStep_156 (by decide) ?_
            have h := Option.some.inj h
            exact W.zret (ty := .boolean) (v := (1 : Int32)) hx hb hr rfl (fun t ht hV => ⟨⟨(1 : Int32), (), rfl, rfl, w2_end ht hW (p_fst h) (p_snd h)⟩, hS.F ht⟩) hS.2.2 dL_isStep_160
          · replace h := ite_f h c133
            refine lv_aload_n hx hb dL_isStep_136 rfl (lv_at hl 4 rfl) ?_
            refine lv_iload hx hb dL_isStep_137 (lv_at hl 2 rfl) ?_
            refine lv_iload hx hb dL_isStep_139 (lv_at hl 0 rfl) ?_
            obtain ⟨r141, e141, h⟩ := bind_s h
            refine k2_cW1 hJ (va_runV (As := [.int r7, .int ((900 : Int32) + r102)]) (rest := []) ⟨hx, hb, hml, hown, hts⟩ (kX3_setGap l D cI cR q1 G K r7 ((900 : Int32) + r102) hJ.1 r141 e141) (cwV 2 hts gL_isStep_X3_setGap rfl rfl rfl (by decide +kernel) ⟨Nat.le_of_ble_eq_true rfl, Nat.le_of_ble_eq_true rfl⟩) (mPreV hK hW.1 0 rfl rfl) rfl rfl hl.1 rfl (lv_room (Nat.le_of_ble_eq_true rfl)) dL_isStep_141 ⟨Nat.le_of_ble_eq_true rfl, Nat.le_of_ble_eq_true rfl⟩) hS hA hW (fun H locs hW hS => ?_)
            refine lv_aload_n hx hb dL_isStep_144 rfl (lv_at hl 5 rfl) ?_
            refine lv_iload hx hb dL_isStep_145 (lv_at hl 2 rfl) ?_
            refine lv_iload hx hb dL_isStep_147 (lv_at hl 0 rfl) ?_
            obtain ⟨r149, e149, h⟩ := bind_s h
            refine k2_cW2 hJ (va_runV (As := [.int r7, .int ((900 : Int32) + r102)]) (rest := [.int r141.1]) ⟨hx, hb, hml, hown, hts⟩ (kX3_setGap l D cI cR q2 P K r7 ((900 : Int32) + r102) hJ.2.1 r149 e149) (cwV 2 hts gL_isStep_X3_setGap rfl rfl rfl (by decide +kernel) ⟨Nat.le_of_ble_eq_true rfl, Nat.le_of_ble_eq_true rfl⟩) (mPreV hK hW.2 0 rfl rfl) rfl rfl hl.1 rfl (lv_room (Nat.le_of_ble_eq_true rfl)) dL_isStep_149 ⟨Nat.le_of_ble_eq_true rfl, Nat.le_of_ble_eq_true rfl⟩) hS hA hW (fun H locs hW hS => ?_)
            obtain ⟨g152, h⟩ := grd_s h
            refine lv_icmp_ne (tgt := 159) hx hb dL_isStep_152 (by decide) (fun c => absurd (of_decide_eq_true g152) c) (fun _ => ?_)
            refine lv_iconst (v := 1) hx hb dL_isStep_155 (by decide) ?_
            refine lv_goto (tgt := 160) hx hb dL_isStep_156 (by decide) ?_
            have h := Option.some.inj h
            exact W.zret (ty := .boolean) (v := (1 : Int32)) hx hb hr rfl (fun t ht hV => ⟨⟨(1 : Int32), (), rfl, rfl, w2_end ht hW (p_fst h) (p_snd h)⟩, hS.F ht⟩) hS.2.2 dL_isStep_160
        · replace h := ite_f h c113
          refine lv_sipush (v := 4100) hx hb dL_isStep_116 (by decide) ?_
          refine lv_goto (tgt := 124) hx hb dL_isStep_119 (by decide) ?_
          refine lv_istore (lv' := [(6, .int (4100 : Int32)), (5, .int (((p3 >>> ((4 : Int32) &&& 31)) >>> ((3 : Int32) &&& 31)) &&& (3 : Int32))), (4, .int r7), (3, .int (p3 >>> ((4 : Int32) &&& 31))), (0, .ref (q1 0)), (1, .ref (q2 0)), (2, .int p3)]) hx hb dL_isStep_124 hl (by decide) rfl (fun ls hl => ?_)
          refine lv_aload_n hx hb dL_isStep_126 rfl (lv_at hl 4 rfl) ?_
          refine lv_iload hx hb dL_isStep_127 (lv_at hl 2 rfl) ?_
          refine lv_iconst (v := 3) hx hb dL_isStep_129 (by decide) ?_
          obtain ⟨r130, e130, h⟩ := bind_s h
          refine k2_cI (va_runV (As := [.int r7, .int (3 : Int32)]) (rest := []) ⟨hx, hb, hml, hown, hts⟩ (kX3_rail l D cI cR q1 G K r7 (3 : Int32) r130 e130) (cwV 2 hts gL_isStep_X3_rail rfl rfl rfl (by decide +kernel) ⟨Nat.le_of_ble_eq_true rfl, Nat.le_of_ble_eq_true rfl⟩) (mPreV hK hW.1 0 rfl rfl) rfl rfl hl.1 rfl (lv_room (Nat.le_of_ble_eq_true rfl)) dL_isStep_130 ⟨Nat.le_of_ble_eq_true rfl, Nat.le_of_ble_eq_true rfl⟩) hS hW (fun H locs hW hS => ?_)
          refine lv_if_ge (tgt := 155) hx hb dL_isStep_133 (by decide) (fun c133 => ?_) (fun c133 => ?_)
          · replace h := ite_t h c133
            refine lv_iconst (v := 1) hx hb dL_isStep_155 (by decide) ?_
            refine lv_goto (tgt := 160) hx hb dL_isStep_156 (by decide) ?_
            have h := Option.some.inj h
            exact W.zret (ty := .boolean) (v := (1 : Int32)) hx hb hr rfl (fun t ht hV => ⟨⟨(1 : Int32), (), rfl, rfl, w2_end ht hW (p_fst h) (p_snd h)⟩, hS.F ht⟩) hS.2.2 dL_isStep_160
          · replace h := ite_f h c133
            refine lv_aload_n hx hb dL_isStep_136 rfl (lv_at hl 4 rfl) ?_
            refine lv_iload hx hb dL_isStep_137 (lv_at hl 2 rfl) ?_
            refine lv_iload hx hb dL_isStep_139 (lv_at hl 0 rfl) ?_
            obtain ⟨r141, e141, h⟩ := bind_s h
            refine k2_cW1 hJ (va_runV (As := [.int r7, .int (4100 : Int32)]) (rest := []) ⟨hx, hb, hml, hown, hts⟩ (kX3_setGap l D cI cR q1 G K r7 (4100 : Int32) hJ.1 r141 e141) (cwV 2 hts gL_isStep_X3_setGap rfl rfl rfl (by decide +kernel) ⟨Nat.le_of_ble_eq_true rfl, Nat.le_of_ble_eq_true rfl⟩) (mPreV hK hW.1 0 rfl rfl) rfl rfl hl.1 rfl (lv_room (Nat.le_of_ble_eq_true rfl)) dL_isStep_141 ⟨Nat.le_of_ble_eq_true rfl, Nat.le_of_ble_eq_true rfl⟩) hS hA hW (fun H locs hW hS => ?_)
            refine lv_aload_n hx hb dL_isStep_144 rfl (lv_at hl 5 rfl) ?_
            refine lv_iload hx hb dL_isStep_145 (lv_at hl 2 rfl) ?_
            refine lv_iload hx hb dL_isStep_147 (lv_at hl 0 rfl) ?_
            obtain ⟨r149, e149, h⟩ := bind_s h
            refine k2_cW2 hJ (va_runV (As := [.int r7, .int (4100 : Int32)]) (rest := [.int r141.1]) ⟨hx, hb, hml, hown, hts⟩ (kX3_setGap l D cI cR q2 P K r7 (4100 : Int32) hJ.2.1 r149 e149) (cwV 2 hts gL_isStep_X3_setGap rfl rfl rfl (by decide +kernel) ⟨Nat.le_of_ble_eq_true rfl, Nat.le_of_ble_eq_true rfl⟩) (mPreV hK hW.2 0 rfl rfl) rfl rfl hl.1 rfl (lv_room (Nat.le_of_ble_eq_true rfl)) dL_isStep_149 ⟨Nat.le_of_ble_eq_true rfl, Nat.le_of_ble_eq_true rfl⟩) hS hA hW (fun H locs hW hS => ?_)
            obtain ⟨g152, h⟩ := grd_s h
            refine lv_icmp_ne (tgt := 159) hx hb dL_isStep_152 (by decide) (fun c => absurd (of_decide_eq_true g152) c) (fun _ => ?_)
            refine lv_iconst (v := 1) hx hb dL_isStep_155 (by decide) ?_
            refine lv_goto (tgt := 160) hx hb dL_isStep_156 (by decide) ?_
            have h := Option.some.inj h
            exact W.zret (ty := .boolean) (v := (1 : Int32)) hx hb hr rfl (fun t ht hV => ⟨⟨(1 : Int32), (), rfl, rfl, w2_end ht hW (p_fst h) (p_snd h)⟩, hS.F ht⟩) hS.2.2 dL_isStep_160
      · replace h := ite_t h c67
        refine lv_aload_n hx hb dL_isStep_70 rfl (lv_at hl 3 rfl) ?_
        refine lv_iload hx hb dL_isStep_71 (lv_at hl 0 rfl) ?_
        refine lv_iconst (v := 0) hx hb dL_isStep_73 (by decide) ?_
        obtain ⟨r74, e74, h⟩ := bind_s h
        refine k2_cI (va_runV (As := [.int (((p3 >>> ((4 : Int32) &&& 31)) >>> ((3 : Int32) &&& 31)) &&& (3 : Int32)), .int (0 : Int32)]) (rest := []) ⟨hx, hb, hml, hown, hts⟩ (kX3_kind l D cI cR q1 G K (((p3 >>> ((4 : Int32) &&& 31)) >>> ((3 : Int32) &&& 31)) &&& (3 : Int32)) (0 : Int32) r74 e74) (cwV 2 hts gL_isStep_X3_kind rfl rfl rfl (by decide +kernel) ⟨Nat.le_of_ble_eq_true rfl, Nat.le_of_ble_eq_true rfl⟩) (mPreV hK hW.1 0 rfl rfl) rfl rfl hl.1 rfl (lv_room (Nat.le_of_ble_eq_true rfl)) dL_isStep_74 ⟨Nat.le_of_ble_eq_true rfl, Nat.le_of_ble_eq_true rfl⟩) hS hW (fun H locs hW hS => ?_)
        refine lv_iload_n hx hb dL_isStep_77 rfl (lv_at hl 2 rfl) ?_
        refine lv_bipush (v := 7) hx hb dL_isStep_78 (by decide) ?_
        refine lv_ishr hx hb dL_isStep_80 ?_
        refine lv_bipush (v := 12) hx hb dL_isStep_81 (by decide) ?_
        obtain ⟨r83, e83, h⟩ := bind_s h
        refine k2_cI (va_runS (As := [.int ((p3 >>> ((4 : Int32) &&& 31)) >>> ((7 : Int32) &&& 31)), .int (12 : Int32)]) (rest := [.int r74]) ⟨hx, hb, hml, hown, hts⟩ (kL_up l K ((p3 >>> ((4 : Int32) &&& 31)) >>> ((7 : Int32) &&& 31)) (12 : Int32) r83 e83) (va_cwS 2 hts gL_isStep_L_up rfl rfl rfl (by decide +kernel) ⟨Nat.le_of_ble_eq_true rfl, Nat.le_of_ble_eq_true rfl⟩) uPreS rfl rfl hl.1 rfl (lv_room (Nat.le_of_ble_eq_true rfl)) dL_isStep_83 ⟨Nat.le_of_ble_eq_true rfl, Nat.le_of_ble_eq_true rfl⟩) hS hW (fun H locs hW hS => ?_)
        refine lv_iadd hx hb dL_isStep_86 ?_
        refine lv_iconst (v := 2) hx hb dL_isStep_87 (by decide) ?_
        refine lv_isub hx hb dL_isStep_88 ?_
        refine lv_goto (tgt := 106) hx hb dL_isStep_89 (by decide) ?_
        refine lv_istore (lv' := [(6, .int ((r74 + r83) - (2 : Int32))), (5, .int (((p3 >>> ((4 : Int32) &&& 31)) >>> ((3 : Int32) &&& 31)) &&& (3 : Int32))), (4, .int r7), (3, .int (p3 >>> ((4 : Int32) &&& 31))), (0, .ref (q1 0)), (1, .ref (q2 0)), (2, .int p3)]) hx hb dL_isStep_106 hl (by decide) rfl (fun ls hl => ?_)
        refine lv_iload hx hb dL_isStep_108 (lv_at hl 0 rfl) ?_
        refine lv_sipush (v := 4100) hx hb dL_isStep_110 (by decide) ?_
        refine lv_icmp_le (tgt := 122) hx hb dL_isStep_113 (by decide) (fun c113 => ?_) (fun c113 => ?_)
        · replace h := ite_t h c113
          refine lv_iload hx hb dL_isStep_122 (lv_at hl 0 rfl) ?_
          refine lv_istore (lv' := [(6, .int ((r74 + r83) - (2 : Int32))), (5, .int (((p3 >>> ((4 : Int32) &&& 31)) >>> ((3 : Int32) &&& 31)) &&& (3 : Int32))), (4, .int r7), (3, .int (p3 >>> ((4 : Int32) &&& 31))), (0, .ref (q1 0)), (1, .ref (q2 0)), (2, .int p3)]) hx hb dL_isStep_124 hl (by decide) rfl (fun ls hl => ?_)
          refine lv_aload_n hx hb dL_isStep_126 rfl (lv_at hl 4 rfl) ?_
          refine lv_iload hx hb dL_isStep_127 (lv_at hl 2 rfl) ?_
          refine lv_iconst (v := 3) hx hb dL_isStep_129 (by decide) ?_
          obtain ⟨r130, e130, h⟩ := bind_s h
          refine k2_cI (va_runV (As := [.int r7, .int (3 : Int32)]) (rest := []) ⟨hx, hb, hml, hown, hts⟩ (kX3_rail l D cI cR q1 G K r7 (3 : Int32) r130 e130) (cwV 2 hts gL_isStep_X3_rail rfl rfl rfl (by decide +kernel) ⟨Nat.le_of_ble_eq_true rfl, Nat.le_of_ble_eq_true rfl⟩) (mPreV hK hW.1 0 rfl rfl) rfl rfl hl.1 rfl (lv_room (Nat.le_of_ble_eq_true rfl)) dL_isStep_130 ⟨Nat.le_of_ble_eq_true rfl, Nat.le_of_ble_eq_true rfl⟩) hS hW (fun H locs hW hS => ?_)
          refine lv_if_ge (tgt := 155) hx hb dL_isStep_133 (by decide) (fun c133 => ?_) (fun c133 => ?_)
          · replace h := ite_t h c133
            refine lv_iconst (v := 1) hx hb dL_isStep_155 (by decide) ?_
            refine lv_goto (tgt := 160) hx hb dL_isStep_156 (by decide) ?_
            have h := Option.some.inj h
            exact W.zret (ty := .boolean) (v := (1 : Int32)) hx hb hr rfl (fun t ht hV => ⟨⟨(1 : Int32), (), rfl, rfl, w2_end ht hW (p_fst h) (p_snd h)⟩, hS.F ht⟩) hS.2.2 dL_isStep_160
          · replace h := ite_f h c133
            refine lv_aload_n hx hb dL_isStep_136 rfl (lv_at hl 4 rfl) ?_
            refine lv_iload hx hb dL_isStep_137 (lv_at hl 2 rfl) ?_
            refine lv_iload hx hb dL_isStep_139 (lv_at hl 0 rfl) ?_
            obtain ⟨r141, e141, h⟩ := bind_s h
            refine k2_cW1 hJ (va_runV (As := [.int r7, .int ((r74 + r83) - (2 : Int32))]) (rest := []) ⟨hx, hb, hml, hown, hts⟩ (kX3_setGap l D cI cR q1 G K r7 ((r74 + r83) - (2 : Int32)) hJ.1 r141 e141) (cwV 2 hts gL_isStep_X3_setGap rfl rfl rfl (by decide +kernel) ⟨Nat.le_of_ble_eq_true rfl, Nat.le_of_ble_eq_true rfl⟩) (mPreV hK hW.1 0 rfl rfl) rfl rfl hl.1 rfl (lv_room (Nat.le_of_ble_eq_true rfl)) dL_isStep_141 ⟨Nat.le_of_ble_eq_true rfl, Nat.le_of_ble_eq_true rfl⟩) hS hA hW (fun H locs hW hS => ?_)
            refine lv_aload_n hx hb dL_isStep_144 rfl (lv_at hl 5 rfl) ?_
            refine lv_iload hx hb dL_isStep_145 (lv_at hl 2 rfl) ?_
            refine lv_iload hx hb dL_isStep_147 (lv_at hl 0 rfl) ?_
            obtain ⟨r149, e149, h⟩ := bind_s h
            refine k2_cW2 hJ (va_runV (As := [.int r7, .int ((r74 + r83) - (2 : Int32))]) (rest := [.int r141.1]) ⟨hx, hb, hml, hown, hts⟩ (kX3_setGap l D cI cR q2 P K r7 ((r74 + r83) - (2 : Int32)) hJ.2.1 r149 e149) (cwV 2 hts gL_isStep_X3_setGap rfl rfl rfl (by decide +kernel) ⟨Nat.le_of_ble_eq_true rfl, Nat.le_of_ble_eq_true rfl⟩) (mPreV hK hW.2 0 rfl rfl) rfl rfl hl.1 rfl (lv_room (Nat.le_of_ble_eq_true rfl)) dL_isStep_149 ⟨Nat.le_of_ble_eq_true rfl, Nat.le_of_ble_eq_true rfl⟩) hS hA hW (fun H locs hW hS => ?_)
            obtain ⟨g152, h⟩ := grd_s h
            refine lv_icmp_ne (tgt := 159) hx hb dL_isStep_152 (by decide) (fun c => absurd (of_decide_eq_true g152) c) (fun _ => ?_)
            refine lv_iconst (v := 1) hx hb dL_isStep_155 (by decide) ?_
            refine lv_goto (tgt := 160) hx hb dL_isStep_156 (by decide) ?_
            have h := Option.some.inj h
            exact W.zret (ty := .boolean) (v := (1 : Int32)) hx hb hr rfl (fun t ht hV => ⟨⟨(1 : Int32), (), rfl, rfl, w2_end ht hW (p_fst h) (p_snd h)⟩, hS.F ht⟩) hS.2.2 dL_isStep_160
        · replace h := ite_f h c113
          refine lv_sipush (v := 4100) hx hb dL_isStep_116 (by decide) ?_
          refine lv_goto (tgt := 124) hx hb dL_isStep_119 (by decide) ?_
          refine lv_istore (lv' := [(6, .int (4100 : Int32)), (5, .int (((p3 >>> ((4 : Int32) &&& 31)) >>> ((3 : Int32) &&& 31)) &&& (3 : Int32))), (4, .int r7), (3, .int (p3 >>> ((4 : Int32) &&& 31))), (0, .ref (q1 0)), (1, .ref (q2 0)), (2, .int p3)]) hx hb dL_isStep_124 hl (by decide) rfl (fun ls hl => ?_)
          refine lv_aload_n hx hb dL_isStep_126 rfl (lv_at hl 4 rfl) ?_
          refine lv_iload hx hb dL_isStep_127 (lv_at hl 2 rfl) ?_
          refine lv_iconst (v := 3) hx hb dL_isStep_129 (by decide) ?_
          obtain ⟨r130, e130, h⟩ := bind_s h
          refine k2_cI (va_runV (As := [.int r7, .int (3 : Int32)]) (rest := []) ⟨hx, hb, hml, hown, hts⟩ (kX3_rail l D cI cR q1 G K r7 (3 : Int32) r130 e130) (cwV 2 hts gL_isStep_X3_rail rfl rfl rfl (by decide +kernel) ⟨Nat.le_of_ble_eq_true rfl, Nat.le_of_ble_eq_true rfl⟩) (mPreV hK hW.1 0 rfl rfl) rfl rfl hl.1 rfl (lv_room (Nat.le_of_ble_eq_true rfl)) dL_isStep_130 ⟨Nat.le_of_ble_eq_true rfl, Nat.le_of_ble_eq_true rfl⟩) hS hW (fun H locs hW hS => ?_)
          refine lv_if_ge (tgt := 155) hx hb dL_isStep_133 (by decide) (fun c133 => ?_) (fun c133 => ?_)
          · replace h := ite_t h c133
            refine lv_iconst (v := 1) hx hb dL_isStep_155 (by decide) ?_
            refine lv_goto (tgt := 160) hx hb dL_isStep_156 (by decide) ?_
            have h := Option.some.inj h
            exact W.zret (ty := .boolean) (v := (1 : Int32)) hx hb hr rfl (fun t ht hV => ⟨⟨(1 : Int32), (), rfl, rfl, w2_end ht hW (p_fst h) (p_snd h)⟩, hS.F ht⟩) hS.2.2 dL_isStep_160
          · replace h := ite_f h c133
            refine lv_aload_n hx hb dL_isStep_136 rfl (lv_at hl 4 rfl) ?_
            refine lv_iload hx hb dL_isStep_137 (lv_at hl 2 rfl) ?_
            refine lv_iload hx hb dL_isStep_139 (lv_at hl 0 rfl) ?_
            obtain ⟨r141, e141, h⟩ := bind_s h
            refine k2_cW1 hJ (va_runV (As := [.int r7, .int (4100 : Int32)]) (rest := []) ⟨hx, hb, hml, hown, hts⟩ (kX3_setGap l D cI cR q1 G K r7 (4100 : Int32) hJ.1 r141 e141) (cwV 2 hts gL_isStep_X3_setGap rfl rfl rfl (by decide +kernel) ⟨Nat.le_of_ble_eq_true rfl, Nat.le_of_ble_eq_true rfl⟩) (mPreV hK hW.1 0 rfl rfl) rfl rfl hl.1 rfl (lv_room (Nat.le_of_ble_eq_true rfl)) dL_isStep_141 ⟨Nat.le_of_ble_eq_true rfl, Nat.le_of_ble_eq_true rfl⟩) hS hA hW (fun H locs hW hS => ?_)
            refine lv_aload_n hx hb dL_isStep_144 rfl (lv_at hl 5 rfl) ?_
            refine lv_iload hx hb dL_isStep_145 (lv_at hl 2 rfl) ?_
            refine lv_iload hx hb dL_isStep_147 (lv_at hl 0 rfl) ?_
            obtain ⟨r149, e149, h⟩ := bind_s h
            refine k2_cW2 hJ (va_runV (As := [.int r7, .int (4100 : Int32)]) (rest := [.int r141.1]) ⟨hx, hb, hml, hown, hts⟩ (kX3_setGap l D cI cR q2 P K r7 (4100 : Int32) hJ.2.1 r149 e149) (cwV 2 hts gL_isStep_X3_setGap rfl rfl rfl (by decide +kernel) ⟨Nat.le_of_ble_eq_true rfl, Nat.le_of_ble_eq_true rfl⟩) (mPreV hK hW.2 0 rfl rfl) rfl rfl hl.1 rfl (lv_room (Nat.le_of_ble_eq_true rfl)) dL_isStep_149 ⟨Nat.le_of_ble_eq_true rfl, Nat.le_of_ble_eq_true rfl⟩) hS hA hW (fun H locs hW hS => ?_)
            obtain ⟨g152, h⟩ := grd_s h
            refine lv_icmp_ne (tgt := 159) hx hb dL_isStep_152 (by decide) (fun c => absurd (of_decide_eq_true g152) c) (fun _ => ?_)
            refine lv_iconst (v := 1) hx hb dL_isStep_155 (by decide) ?_
            refine lv_goto (tgt := 160) hx hb dL_isStep_156 (by decide) ?_
            have h := Option.some.inj h
            exact W.zret (ty := .boolean) (v := (1 : Int32)) hx hb hr rfl (fun t ht hV => ⟨⟨(1 : Int32), (), rfl, rfl, w2_end ht hW (p_fst h) (p_snd h)⟩, hS.F ht⟩) hS.2.2 dL_isStep_160
    · replace h := ite_f h c25_1
      rcases Decidable.em (r22 = (2 : Int32)) with c25_2 | c25_2
      · replace h := ite_t h c25_2
        refine lv_tableIn (off := 136) (tgt := 161) hx hb dL_isStep_25 (by rw [c25_2]; decide) (by rw [c25_2]; decide) (by rw [c25_2]; rfl) (by decide) ?_
        refine lv_aload_n hx hb dL_isStep_161 rfl (lv_at hl 3 rfl) ?_
        refine lv_iload hx hb dL_isStep_162 (lv_at hl 1 rfl) ?_
        refine lv_iconst (v := 3) hx hb dL_isStep_164 (by decide) ?_
        obtain ⟨r165, e165, h⟩ := bind_s h
        refine k2_cI (va_runV (As := [.int r7, .int (3 : Int32)]) (rest := []) ⟨hx, hb, hml, hown, hts⟩ (kX3_rail l D cI cR q1 G K r7 (3 : Int32) r165 e165) (cwV 2 hts gL_isStep_X3_rail rfl rfl rfl (by decide +kernel) ⟨Nat.le_of_ble_eq_true rfl, Nat.le_of_ble_eq_true rfl⟩) (mPreV hK hW.1 0 rfl rfl) rfl rfl hl.1 rfl (lv_room (Nat.le_of_ble_eq_true rfl)) dL_isStep_165 ⟨Nat.le_of_ble_eq_true rfl, Nat.le_of_ble_eq_true rfl⟩) hS hW (fun H locs hW hS => ?_)
        refine lv_if_ge (tgt := 189) hx hb dL_isStep_168 (by decide) (fun c168 => ?_) (fun c168 => ?_)
        · replace h := ite_t h c168
          refine lv_aload_n hx hb dL_isStep_189 rfl (lv_at hl 3 rfl) ?_
          refine lv_iload hx hb dL_isStep_190 (lv_at hl 1 rfl) ?_
          obtain ⟨r192, e192, h⟩ := bind_s h
          refine k2_cW1 hJ (va_runV (As := [.int r7]) (rest := []) ⟨hx, hb, hml, hown, hts⟩ (kX3_free l D cI cR q1 G K r7 hJ.1 r192 e192) (cwV 1 hts gL_isStep_X3_free rfl rfl rfl (by decide +kernel) ⟨Nat.le_of_ble_eq_true rfl, Nat.le_of_ble_eq_true rfl⟩) (mPreV hK hW.1 0 rfl rfl) rfl rfl hl.1 rfl (lv_room (Nat.le_of_ble_eq_true rfl)) dL_isStep_192 ⟨Nat.le_of_ble_eq_true rfl, Nat.le_of_ble_eq_true rfl⟩) hS hA hW (fun H locs hW hS => ?_)
          refine lv_iconst (v := 3) hx hb dL_isStep_195 (by decide) ?_
          refine lv_aload_n hx hb dL_isStep_196 rfl (lv_at hl 4 rfl) ?_
          refine lv_iload hx hb dL_isStep_197 (lv_at hl 1 rfl) ?_
          obtain ⟨r199, e199, h⟩ := bind_s h
          refine k2_cW2 hJ (va_runV (As := [.int r7]) (rest := [.int (3 : Int32), .int r192.1]) ⟨hx, hb, hml, hown, hts⟩ (kX3_free l D cI cR q2 P K r7 hJ.2.1 r199 e199) (cwV 1 hts gL_isStep_X3_free rfl rfl rfl (by decide +kernel) ⟨Nat.le_of_ble_eq_true rfl, Nat.le_of_ble_eq_true rfl⟩) (mPreV hK hW.2 0 rfl rfl) rfl rfl hl.1 rfl (lv_room (Nat.le_of_ble_eq_true rfl)) dL_isStep_199 ⟨Nat.le_of_ble_eq_true rfl, Nat.le_of_ble_eq_true rfl⟩) hS hA hW (fun H locs hW hS => ?_)
          refine lv_isub hx hb dL_isStep_202 ?_
          obtain ⟨g203, h⟩ := grd_s h
          refine lv_icmp_ne (tgt := 210) hx hb dL_isStep_203 (by decide) (fun c => absurd (of_decide_eq_true g203) c) (fun _ => ?_)
          refine lv_iconst (v := 1) hx hb dL_isStep_206 (by decide) ?_
          refine lv_goto (tgt := 211) hx hb dL_isStep_207 (by decide) ?_
          have h := Option.some.inj h
          exact W.zret (ty := .boolean) (v := (1 : Int32)) hx hb hr rfl (fun t ht hV => ⟨⟨(1 : Int32), (), rfl, rfl, w2_end ht hW (p_fst h) (p_snd h)⟩, hS.F ht⟩) hS.2.2 dL_isStep_211
        · replace h := ite_f h c168
          refine lv_aload_n hx hb dL_isStep_171 rfl (lv_at hl 4 rfl) ?_
          refine lv_iload hx hb dL_isStep_172 (lv_at hl 1 rfl) ?_
          refine lv_iconst (v := 3) hx hb dL_isStep_174 (by decide) ?_
          obtain ⟨r175, e175, h⟩ := bind_s h
          refine k2_cI (va_runV (As := [.int r7, .int (3 : Int32)]) (rest := []) ⟨hx, hb, hml, hown, hts⟩ (kX3_rail l D cI cR q2 P K r7 (3 : Int32) r175 e175) (cwV 2 hts gL_isStep_X3_rail rfl rfl rfl (by decide +kernel) ⟨Nat.le_of_ble_eq_true rfl, Nat.le_of_ble_eq_true rfl⟩) (mPreV hK hW.2 0 rfl rfl) rfl rfl hl.1 rfl (lv_room (Nat.le_of_ble_eq_true rfl)) dL_isStep_175 ⟨Nat.le_of_ble_eq_true rfl, Nat.le_of_ble_eq_true rfl⟩) hS hW (fun H locs hW hS => ?_)
          obtain ⟨g178, h⟩ := grd_s h
          refine lv_if_ge (tgt := 185) hx hb dL_isStep_178 (by decide) (fun c => absurd c (of_decide_eq_true g178)) (fun _ => ?_)
          refine lv_iconst (v := 1) hx hb dL_isStep_181 (by decide) ?_
          refine lv_goto (tgt := 211) hx hb dL_isStep_182 (by decide) ?_
          have h := Option.some.inj h
          exact W.zret (ty := .boolean) (v := (1 : Int32)) hx hb hr rfl (fun t ht hV => ⟨⟨(1 : Int32), (), rfl, rfl, w2_end ht hW (p_fst h) (p_snd h)⟩, hS.F ht⟩) hS.2.2 dL_isStep_211
      · replace h := ite_f h c25_2
        rcases Decidable.em (r22 = (3 : Int32)) with c25_3 | c25_3
        · replace h := ite_t h c25_3
          refine lv_tableIn (off := 187) (tgt := 212) hx hb dL_isStep_25 (by rw [c25_3]; decide) (by rw [c25_3]; decide) (by rw [c25_3]; rfl) (by decide) ?_
          refine lv_aload_n hx hb dL_isStep_212 rfl (lv_at hl 3 rfl) ?_
          refine lv_iload hx hb dL_isStep_213 (lv_at hl 1 rfl) ?_
          obtain ⟨r215, e215, h⟩ := bind_s h
          refine k2_cW1 hJ (va_runV (As := [.int r7]) (rest := []) ⟨hx, hb, hml, hown, hts⟩ (kX3_takeBag l D cI cR q1 G K r7 hJ.1 r215 e215) (cwV 1 hts gL_isStep_X3_takeBag rfl rfl rfl (by decide +kernel) ⟨Nat.le_of_ble_eq_true rfl, Nat.le_of_ble_eq_true rfl⟩) (mPreV hK hW.1 0 rfl rfl) rfl rfl hl.1 rfl (lv_room (Nat.le_of_ble_eq_true rfl)) dL_isStep_215 ⟨Nat.le_of_ble_eq_true rfl, Nat.le_of_ble_eq_true rfl⟩) hS hA hW (fun H locs hW hS => ?_)
          refine lv_aload_n hx hb dL_isStep_218 rfl (lv_at hl 4 rfl) ?_
          refine lv_iload hx hb dL_isStep_219 (lv_at hl 1 rfl) ?_
          obtain ⟨r221, e221, h⟩ := bind_s h
          refine k2_cW2 hJ (va_runV (As := [.int r7]) (rest := [.int r215.1]) ⟨hx, hb, hml, hown, hts⟩ (kX3_takeBag l D cI cR q2 P K r7 hJ.2.1 r221 e221) (cwV 1 hts gL_isStep_X3_takeBag rfl rfl rfl (by decide +kernel) ⟨Nat.le_of_ble_eq_true rfl, Nat.le_of_ble_eq_true rfl⟩) (mPreV hK hW.2 0 rfl rfl) rfl rfl hl.1 rfl (lv_room (Nat.le_of_ble_eq_true rfl)) dL_isStep_221 ⟨Nat.le_of_ble_eq_true rfl, Nat.le_of_ble_eq_true rfl⟩) hS hA hW (fun H locs hW hS => ?_)
          obtain ⟨g224, h⟩ := grd_s h
          refine lv_icmp_ne (tgt := 231) hx hb dL_isStep_224 (by decide) (fun c => absurd (of_decide_eq_true g224) c) (fun _ => ?_)
          refine lv_iconst (v := 1) hx hb dL_isStep_227 (by decide) ?_
          refine lv_goto (tgt := 232) hx hb dL_isStep_228 (by decide) ?_
          have h := Option.some.inj h
          exact W.zret (ty := .boolean) (v := (1 : Int32)) hx hb hr rfl (fun t ht hV => ⟨⟨(1 : Int32), (), rfl, rfl, w2_end ht hW (p_fst h) (p_snd h)⟩, hS.F ht⟩) hS.2.2 dL_isStep_232
        · replace h := ite_f h c25_3
          rcases Decidable.em (r22 = (4 : Int32)) with c25_4 | c25_4
          · replace h := ite_t h c25_4
            refine lv_tableIn (off := 208) (tgt := 233) hx hb dL_isStep_25 (by rw [c25_4]; decide) (by rw [c25_4]; decide) (by rw [c25_4]; rfl) (by decide) ?_
            refine lv_aload_n hx hb dL_isStep_233 rfl (lv_at hl 3 rfl) ?_
            obtain ⟨r234, e234, h⟩ := bind_s h
            refine k2_cW1 hJ (va_runV (As := []) (rest := []) ⟨hx, hb, hml, hown, hts⟩ (kX3_takeRejects l D cI cR q1 G K hJ.1 r234 e234) (cwV 0 hts gL_isStep_X3_takeRejects rfl rfl rfl (by decide +kernel) ⟨Nat.le_of_ble_eq_true rfl, Nat.le_of_ble_eq_true rfl⟩) (mPreV hK hW.1 0 rfl rfl) rfl rfl hl.1 rfl (lv_room (Nat.le_of_ble_eq_true rfl)) dL_isStep_234 ⟨Nat.le_of_ble_eq_true rfl, Nat.le_of_ble_eq_true rfl⟩) hS hA hW (fun H locs hW hS => ?_)
            refine lv_aload_n hx hb dL_isStep_237 rfl (lv_at hl 4 rfl) ?_
            obtain ⟨r238, e238, h⟩ := bind_s h
            refine k2_cW2 hJ (va_runV (As := []) (rest := [.int r234.1]) ⟨hx, hb, hml, hown, hts⟩ (kX3_takeRejects l D cI cR q2 P K hJ.2.1 r238 e238) (cwV 0 hts gL_isStep_X3_takeRejects rfl rfl rfl (by decide +kernel) ⟨Nat.le_of_ble_eq_true rfl, Nat.le_of_ble_eq_true rfl⟩) (mPreV hK hW.2 0 rfl rfl) rfl rfl hl.1 rfl (lv_room (Nat.le_of_ble_eq_true rfl)) dL_isStep_238 ⟨Nat.le_of_ble_eq_true rfl, Nat.le_of_ble_eq_true rfl⟩) hS hA hW (fun H locs hW hS => ?_)
            obtain ⟨g241, h⟩ := grd_s h
            refine lv_icmp_ne (tgt := 248) hx hb dL_isStep_241 (by decide) (fun c => absurd (of_decide_eq_true g241) c) (fun _ => ?_)
            refine lv_iconst (v := 1) hx hb dL_isStep_244 (by decide) ?_
            refine lv_goto (tgt := 249) hx hb dL_isStep_245 (by decide) ?_
            have h := Option.some.inj h
            exact W.zret (ty := .boolean) (v := (1 : Int32)) hx hb hr rfl (fun t ht hV => ⟨⟨(1 : Int32), (), rfl, rfl, w2_end ht hW (p_fst h) (p_snd h)⟩, hS.F ht⟩) hS.2.2 dL_isStep_249
          · replace h := ite_f h c25_4
            have e25_0 : (r22).toInt ≠ (0 : Int) := tsw_ne c25_0
            have e25_1 : (r22).toInt ≠ (1 : Int) := tsw_ne c25_1
            have e25_2 : (r22).toInt ≠ (2 : Int) := tsw_ne c25_2
            have e25_3 : (r22).toInt ≠ (3 : Int) := tsw_ne c25_3
            have e25_4 : (r22).toInt ≠ (4 : Int) := tsw_ne c25_4
            refine lv_tableOut (tgt := 250) hx hb dL_isStep_25 (by omega) (by decide) ?_
            refine lv_iload_n hx hb dL_isStep_250 rfl (lv_at hl 2 rfl) ?_
            refine lv_bipush (v := 6) hx hb dL_isStep_251 (by decide) ?_
            refine lv_ishr hx hb dL_isStep_253 ?_
            refine lv_iload_n hx hb dL_isStep_254 rfl (lv_at hl 2 rfl) ?_
            refine lv_iconst (v := 3) hx hb dL_isStep_255 (by decide) ?_
            obtain ⟨r256, e256, h⟩ := bind_s h
            refine k2_cI (va_runS (As := [.int (p3 >>> ((4 : Int32) &&& 31)), .int (3 : Int32)]) (rest := [.int ((p3 >>> ((4 : Int32) &&& 31)) >>> ((6 : Int32) &&& 31))]) ⟨hx, hb, hml, hown, hts⟩ (kL_up l K (p3 >>> ((4 : Int32) &&& 31)) (3 : Int32) r256 e256) (va_cwS 2 hts gL_isStep_L_up rfl rfl rfl (by decide +kernel) ⟨Nat.le_of_ble_eq_true rfl, Nat.le_of_ble_eq_true rfl⟩) uPreS rfl rfl hl.1 rfl (lv_room (Nat.le_of_ble_eq_true rfl)) dL_isStep_256 ⟨Nat.le_of_ble_eq_true rfl, Nat.le_of_ble_eq_true rfl⟩) hS hW (fun H locs hW hS => ?_)
            refine lv_if_ne (tgt := 268) hx hb dL_isStep_259 (by decide) (fun c259 => ?_) (fun c259 => ?_)
            · replace h := ite_f h c259
              refine lv_bipush (v := 40) hx hb dL_isStep_268 (by decide) ?_
              obtain ⟨r270, e270, h⟩ := bind_s h
              refine k2_cI (va_runS (As := [.int ((p3 >>> ((4 : Int32) &&& 31)) >>> ((6 : Int32) &&& 31)), .int (40 : Int32)]) (rest := []) ⟨hx, hb, hml, hown, hts⟩ (kL_up l K ((p3 >>> ((4 : Int32) &&& 31)) >>> ((6 : Int32) &&& 31)) (40 : Int32) r270 e270) (va_cwS 2 hts gL_isStep_L_up rfl rfl rfl (by decide +kernel) ⟨Nat.le_of_ble_eq_true rfl, Nat.le_of_ble_eq_true rfl⟩) uPreS rfl rfl hl.1 rfl (lv_room (Nat.le_of_ble_eq_true rfl)) dL_isStep_270 ⟨Nat.le_of_ble_eq_true rfl, Nat.le_of_ble_eq_true rfl⟩) hS hW (fun H locs hW hS => ?_)
              refine lv_istore (lv' := [(6, .int r270), (5, .int (((p3 >>> ((4 : Int32) &&& 31)) >>> ((3 : Int32) &&& 31)) &&& (3 : Int32))), (4, .int r7), (3, .int (p3 >>> ((4 : Int32) &&& 31))), (0, .ref (q1 0)), (1, .ref (q2 0)), (2, .int p3)]) hx hb dL_isStep_273 hl (by decide) rfl (fun ls hl => ?_)
              refine lv_iconst (v := 1) hx hb dL_isStep_275 (by decide) ?_
              refine lv_iload_n hx hb dL_isStep_276 rfl (lv_at hl 3 rfl) ?_
              refine lv_bipush (v := 16) hx hb dL_isStep_277 (by decide) ?_
              refine lv_ishr hx hb dL_isStep_279 ?_
              refine lv_bipush (v := 6) hx hb dL_isStep_280 (by decide) ?_
              obtain ⟨r282, e282, h⟩ := bind_s h
              refine k2_cI (va_runS (As := [.int ((p3 >>> ((4 : Int32) &&& 31)) >>> ((16 : Int32) &&& 31)), .int (6 : Int32)]) (rest := [.int (1 : Int32)]) ⟨hx, hb, hml, hown, hts⟩ (kL_up l K ((p3 >>> ((4 : Int32) &&& 31)) >>> ((16 : Int32) &&& 31)) (6 : Int32) r282 e282) (va_cwS 2 hts gL_isStep_L_up rfl rfl rfl (by decide +kernel) ⟨Nat.le_of_ble_eq_true rfl, Nat.le_of_ble_eq_true rfl⟩) uPreS rfl rfl hl.1 rfl (lv_room (Nat.le_of_ble_eq_true rfl)) dL_isStep_282 ⟨Nat.le_of_ble_eq_true rfl, Nat.le_of_ble_eq_true rfl⟩) hS hW (fun H locs hW hS => ?_)
              refine lv_iadd hx hb dL_isStep_285 ?_
              refine lv_istore (lv' := [(7, .int ((1 : Int32) + r282)), (6, .int r270), (5, .int (((p3 >>> ((4 : Int32) &&& 31)) >>> ((3 : Int32) &&& 31)) &&& (3 : Int32))), (4, .int r7), (3, .int (p3 >>> ((4 : Int32) &&& 31))), (0, .ref (q1 0)), (1, .ref (q2 0)), (2, .int p3)]) hx hb dL_isStep_286 hl (by decide) rfl (fun ls hl => ?_)
              refine lv_aload_n hx hb dL_isStep_288 rfl (lv_at hl 5 rfl) ?_
              refine lv_iload hx hb dL_isStep_289 (lv_at hl 2 rfl) ?_
              refine lv_iload hx hb dL_isStep_291 (lv_at hl 1 rfl) ?_
              obtain ⟨r293, e293, h⟩ := bind_s h
              refine k2_cI (va_runV (As := [.int (((p3 >>> ((4 : Int32) &&& 31)) >>> ((3 : Int32) &&& 31)) &&& (3 : Int32)), .int r270]) (rest := []) ⟨hx, hb, hml, hown, hts⟩ (kX3_where l D cI cR q1 G K (((p3 >>> ((4 : Int32) &&& 31)) >>> ((3 : Int32) &&& 31)) &&& (3 : Int32)) r270 r293 e293) (cwV 2 hts gL_isStep_X3_where rfl rfl rfl (by decide +kernel) ⟨Nat.le_of_ble_eq_true rfl, Nat.le_of_ble_eq_true rfl⟩) (mPreV hK hW.1 0 rfl rfl) rfl rfl hl.1 rfl (lv_room (Nat.le_of_ble_eq_true rfl)) dL_isStep_293 ⟨Nat.le_of_ble_eq_true rfl, Nat.le_of_ble_eq_true rfl⟩) hS hW (fun H locs hW hS => ?_)
              refine lv_aload_n hx hb dL_isStep_296 rfl (lv_at hl 6 rfl) ?_
              refine lv_iconst (v := 3) hx hb dL_isStep_297 (by decide) ?_
              refine lv_iload hx hb dL_isStep_298 (lv_at hl 2 rfl) ?_
              refine lv_isub hx hb dL_isStep_300 ?_
              refine lv_iload hx hb dL_isStep_301 (lv_at hl 1 rfl) ?_
              obtain ⟨r303, e303, h⟩ := bind_s h
              refine k2_cI (va_runV (As := [.int ((3 : Int32) - (((p3 >>> ((4 : Int32) &&& 31)) >>> ((3 : Int32) &&& 31)) &&& (3 : Int32))), .int r270]) (rest := [.int r293]) ⟨hx, hb, hml, hown, hts⟩ (kX3_where l D cI cR q2 P K ((3 : Int32) - (((p3 >>> ((4 : Int32) &&& 31)) >>> ((3 : Int32) &&& 31)) &&& (3 : Int32))) r270 r303 e303) (cwV 2 hts gL_isStep_X3_where rfl rfl rfl (by decide +kernel) ⟨Nat.le_of_ble_eq_true rfl, Nat.le_of_ble_eq_true rfl⟩) (mPreV hK hW.2 0 rfl rfl) rfl rfl hl.1 rfl (lv_room (Nat.le_of_ble_eq_true rfl)) dL_isStep_303 ⟨Nat.le_of_ble_eq_true rfl, Nat.le_of_ble_eq_true rfl⟩) hS hW (fun H locs hW hS => ?_)
              obtain ⟨g306, h⟩ := grd_s h
              refine lv_icmp_ne (tgt := 313) hx hb dL_isStep_306 (by decide) (fun c => absurd (of_decide_eq_true g306) c) (fun _ => ?_)
              refine lv_iconst (v := 1) hx hb dL_isStep_309 (by decide) ?_
              refine lv_goto (tgt := 314) hx hb dL_isStep_310 (by decide) ?_
              refine lv_istore (lv' := [(8, .int (1 : Int32)), (7, .int ((1 : Int32) + r282)), (6, .int r270), (5, .int (((p3 >>> ((4 : Int32) &&& 31)) >>> ((3 : Int32) &&& 31)) &&& (3 : Int32))), (4, .int r7), (3, .int (p3 >>> ((4 : Int32) &&& 31))), (0, .ref (q1 0)), (1, .ref (q2 0)), (2, .int p3)]) hx hb dL_isStep_314 hl (by decide) rfl (fun ls hl => ?_)
              refine lv_iconst (v := 0) hx hb dL_isStep_316 (by decide) ?_
              refine lv_istore (lv' := [(9, .int (0 : Int32)), (8, .int (1 : Int32)), (7, .int ((1 : Int32) + r282)), (6, .int r270), (5, .int (((p3 >>> ((4 : Int32) &&& 31)) >>> ((3 : Int32) &&& 31)) &&& (3 : Int32))), (4, .int r7), (3, .int (p3 >>> ((4 : Int32) &&& 31))), (0, .ref (q1 0)), (1, .ref (q2 0)), (2, .int p3)]) hx hb dL_isStep_317 hl (by decide) rfl (fun ls hl => ?_)
              exact L319 K G P (((p3 >>> ((4 : Int32) &&& 31)) >>> ((3 : Int32) &&& 31)) &&& (3 : Int32)) r270 ((1 : Int32) + r282) (0 : Int32) _ _ _ h hW hS (lv_sub hl [7, 8, 4, 3, 2, 1, 0] rfl)
            · replace h := ite_t h c259
              refine lv_sipush (v := 1000) hx hb dL_isStep_262 (by decide) ?_
              refine lv_goto (tgt := 270) hx hb dL_isStep_265 (by decide) ?_
              obtain ⟨r270, e270, h⟩ := bind_s h
              refine k2_cI (va_runS (As := [.int ((p3 >>> ((4 : Int32) &&& 31)) >>> ((6 : Int32) &&& 31)), .int (1000 : Int32)]) (rest := []) ⟨hx, hb, hml, hown, hts⟩ (kL_up l K ((p3 >>> ((4 : Int32) &&& 31)) >>> ((6 : Int32) &&& 31)) (1000 : Int32) r270 e270) (va_cwS 2 hts gL_isStep_L_up rfl rfl rfl (by decide +kernel) ⟨Nat.le_of_ble_eq_true rfl, Nat.le_of_ble_eq_true rfl⟩) uPreS rfl rfl hl.1 rfl (lv_room (Nat.le_of_ble_eq_true rfl)) dL_isStep_270 ⟨Nat.le_of_ble_eq_true rfl, Nat.le_of_ble_eq_true rfl⟩) hS hW (fun H locs hW hS => ?_)
              refine lv_istore (lv' := [(6, .int r270), (5, .int (((p3 >>> ((4 : Int32) &&& 31)) >>> ((3 : Int32) &&& 31)) &&& (3 : Int32))), (4, .int r7), (3, .int (p3 >>> ((4 : Int32) &&& 31))), (0, .ref (q1 0)), (1, .ref (q2 0)), (2, .int p3)]) hx hb dL_isStep_273 hl (by decide) rfl (fun ls hl => ?_)
              refine lv_iconst (v := 1) hx hb dL_isStep_275 (by decide) ?_
              refine lv_iload_n hx hb dL_isStep_276 rfl (lv_at hl 3 rfl) ?_
              refine lv_bipush (v := 16) hx hb dL_isStep_277 (by decide) ?_
              refine lv_ishr hx hb dL_isStep_279 ?_
              refine lv_bipush (v := 6) hx hb dL_isStep_280 (by decide) ?_
              obtain ⟨r282, e282, h⟩ := bind_s h
              refine k2_cI (va_runS (As := [.int ((p3 >>> ((4 : Int32) &&& 31)) >>> ((16 : Int32) &&& 31)), .int (6 : Int32)]) (rest := [.int (1 : Int32)]) ⟨hx, hb, hml, hown, hts⟩ (kL_up l K ((p3 >>> ((4 : Int32) &&& 31)) >>> ((16 : Int32) &&& 31)) (6 : Int32) r282 e282) (va_cwS 2 hts gL_isStep_L_up rfl rfl rfl (by decide +kernel) ⟨Nat.le_of_ble_eq_true rfl, Nat.le_of_ble_eq_true rfl⟩) uPreS rfl rfl hl.1 rfl (lv_room (Nat.le_of_ble_eq_true rfl)) dL_isStep_282 ⟨Nat.le_of_ble_eq_true rfl, Nat.le_of_ble_eq_true rfl⟩) hS hW (fun H locs hW hS => ?_)
              refine lv_iadd hx hb dL_isStep_285 ?_
              refine lv_istore (lv' := [(7, .int ((1 : Int32) + r282)), (6, .int r270), (5, .int (((p3 >>> ((4 : Int32) &&& 31)) >>> ((3 : Int32) &&& 31)) &&& (3 : Int32))), (4, .int r7), (3, .int (p3 >>> ((4 : Int32) &&& 31))), (0, .ref (q1 0)), (1, .ref (q2 0)), (2, .int p3)]) hx hb dL_isStep_286 hl (by decide) rfl (fun ls hl => ?_)
              refine lv_aload_n hx hb dL_isStep_288 rfl (lv_at hl 5 rfl) ?_
              refine lv_iload hx hb dL_isStep_289 (lv_at hl 2 rfl) ?_
              refine lv_iload hx hb dL_isStep_291 (lv_at hl 1 rfl) ?_
              obtain ⟨r293, e293, h⟩ := bind_s h
              refine k2_cI (va_runV (As := [.int (((p3 >>> ((4 : Int32) &&& 31)) >>> ((3 : Int32) &&& 31)) &&& (3 : Int32)), .int r270]) (rest := []) ⟨hx, hb, hml, hown, hts⟩ (kX3_where l D cI cR q1 G K (((p3 >>> ((4 : Int32) &&& 31)) >>> ((3 : Int32) &&& 31)) &&& (3 : Int32)) r270 r293 e293) (cwV 2 hts gL_isStep_X3_where rfl rfl rfl (by decide +kernel) ⟨Nat.le_of_ble_eq_true rfl, Nat.le_of_ble_eq_true rfl⟩) (mPreV hK hW.1 0 rfl rfl) rfl rfl hl.1 rfl (lv_room (Nat.le_of_ble_eq_true rfl)) dL_isStep_293 ⟨Nat.le_of_ble_eq_true rfl, Nat.le_of_ble_eq_true rfl⟩) hS hW (fun H locs hW hS => ?_)
              refine lv_aload_n hx hb dL_isStep_296 rfl (lv_at hl 6 rfl) ?_
              refine lv_iconst (v := 3) hx hb dL_isStep_297 (by decide) ?_
              refine lv_iload hx hb dL_isStep_298 (lv_at hl 2 rfl) ?_
              refine lv_isub hx hb dL_isStep_300 ?_
              refine lv_iload hx hb dL_isStep_301 (lv_at hl 1 rfl) ?_
              obtain ⟨r303, e303, h⟩ := bind_s h
              refine k2_cI (va_runV (As := [.int ((3 : Int32) - (((p3 >>> ((4 : Int32) &&& 31)) >>> ((3 : Int32) &&& 31)) &&& (3 : Int32))), .int r270]) (rest := [.int r293]) ⟨hx, hb, hml, hown, hts⟩ (kX3_where l D cI cR q2 P K ((3 : Int32) - (((p3 >>> ((4 : Int32) &&& 31)) >>> ((3 : Int32) &&& 31)) &&& (3 : Int32))) r270 r303 e303) (cwV 2 hts gL_isStep_X3_where rfl rfl rfl (by decide +kernel) ⟨Nat.le_of_ble_eq_true rfl, Nat.le_of_ble_eq_true rfl⟩) (mPreV hK hW.2 0 rfl rfl) rfl rfl hl.1 rfl (lv_room (Nat.le_of_ble_eq_true rfl)) dL_isStep_303 ⟨Nat.le_of_ble_eq_true rfl, Nat.le_of_ble_eq_true rfl⟩) hS hW (fun H locs hW hS => ?_)
              obtain ⟨g306, h⟩ := grd_s h
              refine lv_icmp_ne (tgt := 313) hx hb dL_isStep_306 (by decide) (fun c => absurd (of_decide_eq_true g306) c) (fun _ => ?_)
              refine lv_iconst (v := 1) hx hb dL_isStep_309 (by decide) ?_
              refine lv_goto (tgt := 314) hx hb dL_isStep_310 (by decide) ?_
              refine lv_istore (lv' := [(8, .int (1 : Int32)), (7, .int ((1 : Int32) + r282)), (6, .int r270), (5, .int (((p3 >>> ((4 : Int32) &&& 31)) >>> ((3 : Int32) &&& 31)) &&& (3 : Int32))), (4, .int r7), (3, .int (p3 >>> ((4 : Int32) &&& 31))), (0, .ref (q1 0)), (1, .ref (q2 0)), (2, .int p3)]) hx hb dL_isStep_314 hl (by decide) rfl (fun ls hl => ?_)
              refine lv_iconst (v := 0) hx hb dL_isStep_316 (by decide) ?_
              refine lv_istore (lv' := [(9, .int (0 : Int32)), (8, .int (1 : Int32)), (7, .int ((1 : Int32) + r282)), (6, .int r270), (5, .int (((p3 >>> ((4 : Int32) &&& 31)) >>> ((3 : Int32) &&& 31)) &&& (3 : Int32))), (4, .int r7), (3, .int (p3 >>> ((4 : Int32) &&& 31))), (0, .ref (q1 0)), (1, .ref (q2 0)), (2, .int p3)]) hx hb dL_isStep_317 hl (by decide) rfl (fun ls hl => ?_)
              exact L319 K G P (((p3 >>> ((4 : Int32) &&& 31)) >>> ((3 : Int32) &&& 31)) &&& (3 : Int32)) r270 ((1 : Int32) + r282) (0 : Int32) _ _ _ h hW hS (lv_sub hl [7, 8, 4, 3, 2, 1, 0] rfl)
