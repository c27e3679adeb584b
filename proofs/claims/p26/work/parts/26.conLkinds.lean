set_option maxHeartbeats 8000000 in
set_option maxRecDepth 100000 in
theorem kL_kinds (l : Launch) (D : va_G) (cI cR : ClassId) (q1 q2 : Nat → Nat) (hJ : J2 q1 q2) (K : Nat) (L : Nat) (xs : Nat → Int32) (b : Nat) (G : (Nat → Nat → Int32)) (P : (Nat → Nat → Int32)) (r : ((Nat → Nat → Int32) × (Nat → Nat → Int32))) (hs : sL_kinds K L xs G P = some r) : Met l yL_kinds wsL_kinds ({ frames := 4, cells := 0, slots := 0, locals := 133 } : Room) (lPreK [.ref (q1 0), .ref (q2 0), .ref b] D cI cR q1 q2 G P b L xs) (mW2 D cI cR q1 q2 r) 0 0 (M2 q1 q2) := by
  refine Met.ofW (cc := cL_kinds) (maxL := 7) (ret := (some .boolean)) (by decide) rfl ?_
  intro p e s m args below meth c s₁ B hml hv
  obtain ⟨hargs, hW, hK, hX, hb1, hb2⟩ := hv
  have hx := B.exec
  have hb := B.bytes
  have hr := B.returns
  have hts := atoms_spec (ws := wsL_kinds) B.pre
  have hown : s.vm.findClass RL = some m.cls := findClass_of_methodNamed B.named
  have hlocks := B.notSynchronized
  have hS : va_S (M2 q1 q2) s.heap s.heap [] := va_S.rf
  have hA : ∀ a, M2 q1 q2 a → M2 q1 q2 a := fun _ h => h
  have hbl := X_lt hX
  have hbA : ¬ (M2 q1 q2) b := fun z => z.elim hb1 hb2
  have L5 : ∀ (n : Nat), ∀ (G1 P1 : Nat → Nat → Int32) (x4 : Int32) (H : Heap) (locs : List Loc) (ls : Array Slot), sL_kinds_L5 K L xs n G1 P1 x4 = some r → W2 D cI cR q1 q2 G1 P1 H → va_S (M2 q1 q2) s.heap H locs → lv_has ls 7 [(0, .ref (q1 0)), (1, .ref (q2 0)), (2, .ref b), (3, .int (1 : Int32)), (4, .int x4)] → W p l e (headSpec wsL_kinds ({ frames := 4, cells := 0, slots := 0, locals := 133 } : Room)).room s m args below meth c H locs 0 0 (MQ below (mW2 D cI cR q1 q2 r) args s 0 0 (M2 q1 q2)) (F0 m 5 ls []) := by
    clear hW hS
    intro n
    induction n with
    | zero => exact fun _ _ _ _ _ _ h => absurd h (by simp [sL_kinds_L5])
    | succ n ih =>
      intro G1 P1 x4 H locs ls h hW hS hl
      rw [sL_kinds_L5] at h
      refine lv_iload hx hb dL_kinds_5 (lv_at hl 4 rfl) ?_
      refine lv_iconst (v := 4) hx hb dL_kinds_7 (by decide) ?_
      refine lv_icmp_ge (tgt := 117) hx hb dL_kinds_8 (by decide) (fun c8 => ?_) (fun c8 => ?_)
      · replace h := ite_t h c8
        refine lv_iload_n hx hb dL_kinds_117 rfl (lv_at hl 3 rfl) ?_
        have h := Option.some.inj h
        exact W.zret (ty := .boolean) (v := (1 : Int32)) hx hb hr rfl (fun t ht hV => ⟨⟨(1 : Int32), (), rfl, rfl, w2_end ht hW (p_fst h) (p_snd h)⟩, hS.F ht⟩) hS.2.2 dL_kinds_118
      · replace h := ite_f h c8
        refine lv_aload_n hx hb dL_kinds_11 rfl (lv_at hl 2 rfl) ?_
        refine lv_iload hx hb dL_kinds_12 (lv_at hl 4 rfl) ?_
        obtain ⟨r14, e14, h⟩ := bind_s h
        refine k2_cI (va_runS (As := [.ref b, .int x4]) (rest := []) ⟨hx, hb, hml, hown, hts⟩ (kL_cell l K L xs b x4 r14 e14) (va_cwS 2 hts gL_kinds_L_cell rfl rfl rfl (by decide +kernel) ⟨Nat.le_of_ble_eq_true rfl, Nat.le_of_ble_eq_true rfl⟩) (cPreS hX hbl hbA hS) rfl rfl hl.1 rfl (lv_room (Nat.le_of_ble_eq_true rfl)) dL_kinds_14 ⟨Nat.le_of_ble_eq_true rfl, Nat.le_of_ble_eq_true rfl⟩) hS hW (fun H locs hW hS => ?_)
        refine lv_istore (lv' := [(5, .int r14), (0, .ref (q1 0)), (1, .ref (q2 0)), (2, .ref b), (3, .int (1 : Int32)), (4, .int x4)]) hx hb dL_kinds_17 hl (by decide) rfl (fun ls hl => ?_)
        refine lv_aload_n hx hb dL_kinds_19 rfl (lv_at hl 3 rfl) ?_
        refine lv_iconst (v := 3) hx hb dL_kinds_20 (by decide) ?_
        refine lv_iload hx hb dL_kinds_21 (lv_at hl 5 rfl) ?_
        refine lv_isub hx hb dL_kinds_23 ?_
        obtain ⟨r24, e24, h⟩ := bind_s h
        refine k2_cI (va_runS (As := [.ref b, .int ((3 : Int32) - x4)]) (rest := []) ⟨hx, hb, hml, hown, hts⟩ (kL_cell l K L xs b ((3 : Int32) - x4) r24 e24) (va_cwS 2 hts gL_kinds_L_cell rfl rfl rfl (by decide +kernel) ⟨Nat.le_of_ble_eq_true rfl, Nat.le_of_ble_eq_true rfl⟩) (cPreS hX hbl hbA hS) rfl rfl hl.1 rfl (lv_room (Nat.le_of_ble_eq_true rfl)) dL_kinds_24 ⟨Nat.le_of_ble_eq_true rfl, Nat.le_of_ble_eq_true rfl⟩) hS hW (fun H locs hW hS => ?_)
        refine lv_istore (lv' := [(6, .int r24), (5, .int r14), (0, .ref (q1 0)), (1, .ref (q2 0)), (2, .ref b), (3, .int (1 : Int32)), (4, .int x4)]) hx hb dL_kinds_27 hl (by decide) rfl (fun ls hl => ?_)
        refine lv_iload_n hx hb dL_kinds_29 rfl (lv_at hl 5 rfl) ?_
        refine lv_if_eq (tgt := 109) hx hb dL_kinds_30 (by decide) (fun c => absurd c (by decide)) (fun _ => ?_)
        refine lv_aload_n hx hb dL_kinds_33 rfl (lv_at hl 2 rfl) ?_
        refine lv_sipush (v := 1200) hx hb dL_kinds_34 (by decide) ?_
        refine lv_iload hx hb dL_kinds_37 (lv_at hl 1 rfl) ?_
        refine lv_sipush (v := 2800) hx hb dL_kinds_39 (by decide) ?_
        obtain ⟨r42, e42, h⟩ := bind_s h
        refine k2_cI (va_runS (As := [.int r14, .int (2800 : Int32)]) (rest := [.int (1200 : Int32), .ref (q1 0)]) ⟨hx, hb, hml, hown, hts⟩ (kL_up l K r14 (2800 : Int32) r42 e42) (va_cwS 2 hts gL_kinds_L_up rfl rfl rfl (by decide +kernel) ⟨Nat.le_of_ble_eq_true rfl, Nat.le_of_ble_eq_true rfl⟩) uPreS rfl rfl hl.1 rfl (lv_room (Nat.le_of_ble_eq_true rfl)) dL_kinds_42 ⟨Nat.le_of_ble_eq_true rfl, Nat.le_of_ble_eq_true rfl⟩) hS hW (fun H locs hW hS => ?_)
        refine lv_iadd hx hb dL_kinds_45 ?_
        refine lv_iconst (v := 1) hx hb dL_kinds_46 (by decide) ?_
        refine lv_iload hx hb dL_kinds_47 (lv_at hl 1 rfl) ?_
        refine lv_iconst (v := 4) hx hb dL_kinds_49 (by decide) ?_
        refine lv_ishr hx hb dL_kinds_50 ?_
        refine lv_sipush (v := 500) hx hb dL_kinds_51 (by decide) ?_
        obtain ⟨r54, e54, h⟩ := bind_s h
        refine k2_cI (va_runS (As := [.int (r14 >>> ((4 : Int32) &&& 31)), .int (500 : Int32)]) (rest := [.int (1 : Int32), .int ((1200 : Int32) + r42), .ref (q1 0)]) ⟨hx, hb, hml, hown, hts⟩ (kL_up l K (r14 >>> ((4 : Int32) &&& 31)) (500 : Int32) r54 e54) (va_cwS 2 hts gL_kinds_L_up rfl rfl rfl (by decide +kernel) ⟨Nat.le_of_ble_eq_true rfl, Nat.le_of_ble_eq_true rfl⟩) uPreS rfl rfl hl.1 rfl (lv_room (Nat.le_of_ble_eq_true rfl)) dL_kinds_54 ⟨Nat.le_of_ble_eq_true rfl, Nat.le_of_ble_eq_true rfl⟩) hS hW (fun H locs hW hS => ?_)
        refine lv_iadd hx hb dL_kinds_57 ?_
        refine lv_iload hx hb dL_kinds_58 (lv_at hl 6 rfl) ?_
        obtain ⟨r60, e60, h⟩ := bind_s h
        refine k2_cW1 hJ (va_runV (As := [.int ((1200 : Int32) + r42), .int ((1 : Int32) + r54), .int x4]) (rest := []) ⟨hx, hb, hml, hown, hts⟩ (kX3_addKind l D cI cR q1 G1 K ((1200 : Int32) + r42) ((1 : Int32) + r54) x4 hJ.1 r60 e60) (cwV 3 hts gL_kinds_X3_addKind rfl rfl rfl (by decide +kernel) ⟨Nat.le_of_ble_eq_true rfl, Nat.le_of_ble_eq_true rfl⟩) (mPreV hK hW.1 0 rfl rfl) rfl rfl hl.1 rfl (lv_room (Nat.le_of_ble_eq_true rfl)) dL_kinds_60 ⟨Nat.le_of_ble_eq_true rfl, Nat.le_of_ble_eq_true rfl⟩) hS hA hW (fun H locs hW hS => ?_)
        refine lv_iload hx hb dL_kinds_63 (lv_at hl 6 rfl) ?_
        obtain ⟨g65, h⟩ := grd_s h
        refine lv_icmp_ne (tgt := 109) hx hb dL_kinds_65 (by decide) (fun c => absurd (of_decide_eq_true g65) c) (fun _ => ?_)
        refine lv_aload_n hx hb dL_kinds_68 rfl (lv_at hl 3 rfl) ?_
        refine lv_sipush (v := 1200) hx hb dL_kinds_69 (by decide) ?_
        refine lv_iload hx hb dL_kinds_72 (lv_at hl 0 rfl) ?_
        refine lv_sipush (v := 2800) hx hb dL_kinds_74 (by decide) ?_
        obtain ⟨r77, e77, h⟩ := bind_s h
        refine k2_cI (va_runS (As := [.int r24, .int (2800 : Int32)]) (rest := [.int (1200 : Int32), .ref (q2 0)]) ⟨hx, hb, hml, hown, hts⟩ (kL_up l K r24 (2800 : Int32) r77 e77) (va_cwS 2 hts gL_kinds_L_up rfl rfl rfl (by decide +kernel) ⟨Nat.le_of_ble_eq_true rfl, Nat.le_of_ble_eq_true rfl⟩) uPreS rfl rfl hl.1 rfl (lv_room (Nat.le_of_ble_eq_true rfl)) dL_kinds_77 ⟨Nat.le_of_ble_eq_true rfl, Nat.le_of_ble_eq_true rfl⟩) hS hW (fun H locs hW hS => ?_)
        refine lv_iadd hx hb dL_kinds_80 ?_
        refine lv_iconst (v := 1) hx hb dL_kinds_81 (by decide) ?_
        refine lv_iload hx hb dL_kinds_82 (lv_at hl 0 rfl) ?_
        refine lv_iconst (v := 4) hx hb dL_kinds_84 (by decide) ?_
        refine lv_ishr hx hb dL_kinds_85 ?_
        refine lv_sipush (v := 500) hx hb dL_kinds_86 (by decide) ?_
        obtain ⟨r89, e89, h⟩ := bind_s h
        refine k2_cI (va_runS (As := [.int (r24 >>> ((4 : Int32) &&& 31)), .int (500 : Int32)]) (rest := [.int (1 : Int32), .int ((1200 : Int32) + r77), .ref (q2 0)]) ⟨hx, hb, hml, hown, hts⟩ (kL_up l K (r24 >>> ((4 : Int32) &&& 31)) (500 : Int32) r89 e89) (va_cwS 2 hts gL_kinds_L_up rfl rfl rfl (by decide +kernel) ⟨Nat.le_of_ble_eq_true rfl, Nat.le_of_ble_eq_true rfl⟩) uPreS rfl rfl hl.1 rfl (lv_room (Nat.le_of_ble_eq_true rfl)) dL_kinds_89 ⟨Nat.le_of_ble_eq_true rfl, Nat.le_of_ble_eq_true rfl⟩) hS hW (fun H locs hW hS => ?_)
        refine lv_iadd hx hb dL_kinds_92 ?_
        refine lv_iconst (v := 3) hx hb dL_kinds_93 (by decide) ?_
        refine lv_iload hx hb dL_kinds_94 (lv_at hl 6 rfl) ?_
        refine lv_isub hx hb dL_kinds_96 ?_
        obtain ⟨r97, e97, h⟩ := bind_s h
        refine k2_cW2 hJ (va_runV (As := [.int ((1200 : Int32) + r77), .int ((1 : Int32) + r89), .int ((3 : Int32) - x4)]) (rest := []) ⟨hx, hb, hml, hown, hts⟩ (kX3_addKind l D cI cR q2 P1 K ((1200 : Int32) + r77) ((1 : Int32) + r89) ((3 : Int32) - x4) hJ.2.1 r97 e97) (cwV 3 hts gL_kinds_X3_addKind rfl rfl rfl (by decide +kernel) ⟨Nat.le_of_ble_eq_true rfl, Nat.le_of_ble_eq_true rfl⟩) (mPreV hK hW.2 0 rfl rfl) rfl rfl hl.1 rfl (lv_room (Nat.le_of_ble_eq_true rfl)) dL_kinds_97 ⟨Nat.le_of_ble_eq_true rfl, Nat.le_of_ble_eq_true rfl⟩) hS hA hW (fun H locs hW hS => ?_)
        refine lv_iload hx hb dL_kinds_100 (lv_at hl 6 rfl) ?_
        obtain ⟨g102, h⟩ := grd_s h
        refine lv_icmp_ne (tgt := 109) hx hb dL_kinds_102 (by decide) (fun c => absurd (of_decide_eq_true g102) c) (fun _ => ?_)
        refine lv_iconst (v := 1) hx hb dL_kinds_105 (by decide) ?_
        refine lv_goto (tgt := 110) hx hb dL_kinds_106 (by decide) ?_
        refine lv_istore_n (lv' := [(3, .int (1 : Int32)), (6, .int r24), (5, .int r14), (0, .ref (q1 0)), (1, .ref (q2 0)), (2, .ref b), (4, .int x4)]) hx hb dL_kinds_110 rfl hl (by decide) rfl (fun ls hl => ?_)
        refine lv_iinc (v := (x4 + 1)) (lv' := [(4, .int (x4 + 1)), (3, .int (1 : Int32)), (6, .int r24), (5, .int r14), (0, .ref (q1 0)), (1, .ref (q2 0)), (2, .ref b)]) hx hb dL_kinds_111 hl (k := 6) rfl (congrArg (fun z : Int32 => x4 + z) (show Int32.ofInt (1) = 1 by decide)) (by decide) rfl (fun ls hl => ?_)
        refine lv_goto (tgt := 5) hx hb dL_kinds_114 (by decide) ?_
        exact ih r60.2 r97.2 (x4 + 1) _ _ _ h hW hS (lv_sub hl [4, 5, 6, 1, 0] rfl)
  subst hargs
  have hl := lv_entry ([.ref (q1 0), .ref (q2 0), .ref b]) (n := 7) (Nat.le_of_ble_eq_true rfl)
  rw [lg_entry_eq]
  generalize (lg_sl ([.ref (q1 0), .ref (q2 0), .ref b]) ++ List.replicate (7 - (lg_sl ([.ref (q1 0), .ref (q2 0), .ref b])).length) Slot.unset).toArray = ls at hl ⊢
  have hl : lv_has ls 7 [(0, .ref (q1 0)), (1, .ref (q2 0)), (2, .ref b)] := hl
  have h := hs
  unfold sL_kinds at h
  refine lv_iconst (v := 1) hx hb dL_kinds_0 (by decide) ?_
  refine lv_istore_n (lv' := [(3, .int (1 : Int32)), (0, .ref (q1 0)), (1, .ref (q2 0)), (2, .ref b)]) hx hb dL_kinds_1 rfl hl (by decide) rfl (fun ls hl => ?_)
  refine lv_iconst (v := 0) hx hb dL_kinds_2 (by decide) ?_
  refine lv_istore (lv' := [(4, .int (0 : Int32)), (3, .int (1 : Int32)), (0, .ref (q1 0)), (1, .ref (q2 0)), (2, .ref b)]) hx hb dL_kinds_3 hl (by decide) rfl (fun ls hl => ?_)
  exact L5 K G P (0 : Int32) _ _ _ h hW hS (lv_sub hl [2, 3, 4, 1, 0] rfl)
