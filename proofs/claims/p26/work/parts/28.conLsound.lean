set_option maxHeartbeats 8000000 in
set_option maxRecDepth 100000 in
theorem kL_isSound (l : Launch) (D : va_G) (cI cR : ClassId) (q : Nat → Nat) (K : Nat) (G : (Nat → Nat → Int32)) (r : Unit) (hs : sL_isSound K G = some r) : Met l yL_isSound wsL_isSound ({ frames := 6, cells := 0, slots := 0, locals := 135 } : Room) (mPre [.ref (q 0)] D cI cR q tmC G) (mI (1 : Int32)) 0 0 (fun _ => False) := by
  refine Met.ofW (cc := cL_isSound) (maxL := 5) (ret := (some .boolean)) (by decide) rfl ?_
  intro p e s m args below meth c s₁ B hml hv
  obtain ⟨hargs, hW, hK⟩ := hv
  have hx := B.exec
  have hb := B.bytes
  have hr := B.returns
  have hts := atoms_spec (ws := wsL_isSound) B.pre
  have hown : s.vm.findClass RL = some m.cls := findClass_of_methodNamed B.named
  have hlocks := B.notSynchronized
  have hS : va_S (fun _ => False) s.heap s.heap [] := va_S.rf
  have L153 : ∀ (n : Nat), ∀ (x2 : Int32) (x3 : Int32) (x4 : Int32) (H : Heap) (locs : List Loc) (ls : Array Slot), sL_isSound_L153 K G n x2 x3 x4 = some r → MW D cI cR q tmC G H → va_S (fun _ => False) s.heap H locs → lv_has ls 5 [(0, .ref (q 0)), (1, .int (1 : Int32)), (2, .int x2), (3, .int x3), (4, .int x4)] → W p l e (headSpec wsL_isSound ({ frames := 6, cells := 0, slots := 0, locals := 135 } : Room)).room s m args below meth c H locs 0 0 (MQ below (mI (1 : Int32)) args s 0 0 (fun _ => False)) (F0 m 153 ls []) := by
    clear hW hS
    intro n
    induction n with
    | zero => exact fun _ _ _ _ _ _ h => absurd h (by simp [sL_isSound_L153])
    | succ n ih =>
      intro x2 x3 x4 H locs ls h hW hS hl
      rw [sL_isSound_L153] at h
      refine lv_iload hx hb dL_isSound_153 (lv_at hl 4 rfl) ?_
      refine lv_bipush (v := 6) hx hb dL_isSound_155 (by decide) ?_
      refine lv_icmp_ge (tgt := 259) hx hb dL_isSound_157 (by decide) (fun c157 => ?_) (fun c157 => ?_)
      · replace h := ite_t h c157
        refine lv_iload_n hx hb dL_isSound_259 rfl (lv_at hl 1 rfl) ?_
        refine lv_if_eq (tgt := 286) hx hb dL_isSound_260 (by decide) (fun c => absurd c (by decide)) (fun _ => ?_)
        refine lv_iload_n hx hb dL_isSound_263 rfl (lv_at hl 2 rfl) ?_
        refine lv_aload_n hx hb dL_isSound_264 rfl (lv_at hl 0 rfl) ?_
        refine lv_iconst (v := 1) hx hb dL_isSound_265 (by decide) ?_
        obtain ⟨r266, e266, h⟩ := bind_s h
        refine k_cI (va_runV (As := [.int (1 : Int32)]) (rest := [.int x2]) ⟨hx, hb, hml, hown, hts⟩ (kX3_value l D cI cR q G K (1 : Int32) r266 e266) (cwV 1 hts gL_isSound_X3_value rfl rfl rfl (by decide +kernel) ⟨Nat.le_of_ble_eq_true rfl, Nat.le_of_ble_eq_true rfl⟩) (mPreV hK hW 0 rfl rfl) rfl rfl hl.1 rfl (lv_room (Nat.le_of_ble_eq_true rfl)) dL_isSound_266 ⟨Nat.le_of_ble_eq_true rfl, Nat.le_of_ble_eq_true rfl⟩) hS hW (fun H locs hW hS => ?_)
        obtain ⟨g269, h⟩ := grd_s h
        refine lv_icmp_ne (tgt := 286) hx hb dL_isSound_269 (by decide) (fun c => absurd (of_decide_eq_true g269) c) (fun _ => ?_)
        refine lv_iload_n hx hb dL_isSound_272 rfl (lv_at hl 3 rfl) ?_
        refine lv_aload_n hx hb dL_isSound_273 rfl (lv_at hl 0 rfl) ?_
        refine lv_bipush (v := 8) hx hb dL_isSound_274 (by decide) ?_
        obtain ⟨r276, e276, h⟩ := bind_s h
        refine k_cI (va_runV (As := [.int (8 : Int32)]) (rest := [.int x3]) ⟨hx, hb, hml, hown, hts⟩ (kX3_value l D cI cR q G K (8 : Int32) r276 e276) (cwV 1 hts gL_isSound_X3_value rfl rfl rfl (by decide +kernel) ⟨Nat.le_of_ble_eq_true rfl, Nat.le_of_ble_eq_true rfl⟩) (mPreV hK hW 0 rfl rfl) rfl rfl hl.1 rfl (lv_room (Nat.le_of_ble_eq_true rfl)) dL_isSound_276 ⟨Nat.le_of_ble_eq_true rfl, Nat.le_of_ble_eq_true rfl⟩) hS hW (fun H locs hW hS => ?_)
        obtain ⟨g279, h⟩ := grd_s h
        refine lv_icmp_ne (tgt := 286) hx hb dL_isSound_279 (by decide) (fun c => absurd (of_decide_eq_true g279) c) (fun _ => ?_)
        refine lv_iconst (v := 1) hx hb dL_isSound_282 (by decide) ?_
        refine lv_goto (tgt := 287) hx hb dL_isSound_283 (by decide) ?_
        have h := Option.some.inj h
        exact W.zret (ty := .boolean) (v := (1 : Int32)) hx hb hr rfl (fun t ht hV => ⟨⟨(1 : Int32), (), rfl, rfl, trivial⟩, hS.F ht⟩) hS.2.2 dL_isSound_287
      · replace h := ite_f h c157
        refine lv_iload_n hx hb dL_isSound_160 rfl (lv_at hl 1 rfl) ?_
        refine lv_if_eq (tgt := 251) hx hb dL_isSound_161 (by decide) (fun c => absurd c (by decide)) (fun _ => ?_)
        refine lv_aload_n hx hb dL_isSound_164 rfl (lv_at hl 0 rfl) ?_
        refine lv_iload hx hb dL_isSound_165 (lv_at hl 4 rfl) ?_
        refine lv_iconst (v := 2) hx hb dL_isSound_167 (by decide) ?_
        obtain ⟨r168, e168, h⟩ := bind_s h
        refine k_cI (va_runV (As := [.int x4, .int (2 : Int32)]) (rest := []) ⟨hx, hb, hml, hown, hts⟩ (kX3_rail l D cI cR q G K x4 (2 : Int32) r168 e168) (cwV 2 hts gL_isSound_X3_rail rfl rfl rfl (by decide +kernel) ⟨Nat.le_of_ble_eq_true rfl, Nat.le_of_ble_eq_true rfl⟩) (mPreV hK hW 0 rfl rfl) rfl rfl hl.1 rfl (lv_room (Nat.le_of_ble_eq_true rfl)) dL_isSound_168 ⟨Nat.le_of_ble_eq_true rfl, Nat.le_of_ble_eq_true rfl⟩) hS hW (fun H locs hW hS => ?_)
        refine lv_bipush (v := 40) hx hb dL_isSound_171 (by decide) ?_
        obtain ⟨g173, h⟩ := grd_s h
        refine lv_icmp_gt (tgt := 251) hx hb dL_isSound_173 (by decide) (fun c => absurd c (of_decide_eq_true g173)) (fun _ => ?_)
        refine lv_aload_n hx hb dL_isSound_176 rfl (lv_at hl 0 rfl) ?_
        refine lv_iload hx hb dL_isSound_177 (lv_at hl 4 rfl) ?_
        refine lv_iconst (v := 1) hx hb dL_isSound_179 (by decide) ?_
        obtain ⟨r180, e180, h⟩ := bind_s h
        refine k_cI (va_runV (As := [.int x4, .int (1 : Int32)]) (rest := []) ⟨hx, hb, hml, hown, hts⟩ (kX3_rail l D cI cR q G K x4 (1 : Int32) r180 e180) (cwV 2 hts gL_isSound_X3_rail rfl rfl rfl (by decide +kernel) ⟨Nat.le_of_ble_eq_true rfl, Nat.le_of_ble_eq_true rfl⟩) (mPreV hK hW 0 rfl rfl) rfl rfl hl.1 rfl (lv_room (Nat.le_of_ble_eq_true rfl)) dL_isSound_180 ⟨Nat.le_of_ble_eq_true rfl, Nat.le_of_ble_eq_true rfl⟩) hS hW (fun H locs hW hS => ?_)
        refine lv_bipush (v := 20) hx hb dL_isSound_183 (by decide) ?_
        obtain ⟨g185, h⟩ := grd_s h
        refine lv_icmp_ge (tgt := 251) hx hb dL_isSound_185 (by decide) (fun c => absurd c (of_decide_eq_true g185)) (fun _ => ?_)
        refine lv_aload_n hx hb dL_isSound_188 rfl (lv_at hl 0 rfl) ?_
        refine lv_iload hx hb dL_isSound_189 (lv_at hl 4 rfl) ?_
        refine lv_iconst (v := 0) hx hb dL_isSound_191 (by decide) ?_
        obtain ⟨r192, e192, h⟩ := bind_s h
        refine k_cI (va_runV (As := [.int x4, .int (0 : Int32)]) (rest := []) ⟨hx, hb, hml, hown, hts⟩ (kX3_rail l D cI cR q G K x4 (0 : Int32) r192 e192) (cwV 2 hts gL_isSound_X3_rail rfl rfl rfl (by decide +kernel) ⟨Nat.le_of_ble_eq_true rfl, Nat.le_of_ble_eq_true rfl⟩) (mPreV hK hW 0 rfl rfl) rfl rfl hl.1 rfl (lv_room (Nat.le_of_ble_eq_true rfl)) dL_isSound_192 ⟨Nat.le_of_ble_eq_true rfl, Nat.le_of_ble_eq_true rfl⟩) hS hW (fun H locs hW hS => ?_)
        refine lv_sipush (v := 900) hx hb dL_isSound_195 (by decide) ?_
        obtain ⟨g198, h⟩ := grd_s h
        refine lv_icmp_lt (tgt := 251) hx hb dL_isSound_198 (by decide) (fun c => absurd c (of_decide_eq_true g198)) (fun _ => ?_)
        refine lv_aload_n hx hb dL_isSound_201 rfl (lv_at hl 0 rfl) ?_
        refine lv_iload hx hb dL_isSound_202 (lv_at hl 4 rfl) ?_
        refine lv_iconst (v := 0) hx hb dL_isSound_204 (by decide) ?_
        obtain ⟨r205, e205, h⟩ := bind_s h
        refine k_cI (va_runV (As := [.int x4, .int (0 : Int32)]) (rest := []) ⟨hx, hb, hml, hown, hts⟩ (kX3_rail l D cI cR q G K x4 (0 : Int32) r205 e205) (cwV 2 hts gL_isSound_X3_rail rfl rfl rfl (by decide +kernel) ⟨Nat.le_of_ble_eq_true rfl, Nat.le_of_ble_eq_true rfl⟩) (mPreV hK hW 0 rfl rfl) rfl rfl hl.1 rfl (lv_room (Nat.le_of_ble_eq_true rfl)) dL_isSound_205 ⟨Nat.le_of_ble_eq_true rfl, Nat.le_of_ble_eq_true rfl⟩) hS hW (fun H locs hW hS => ?_)
        refine lv_sipush (v := 4100) hx hb dL_isSound_208 (by decide) ?_
        obtain ⟨g211, h⟩ := grd_s h
        refine lv_icmp_gt (tgt := 251) hx hb dL_isSound_211 (by decide) (fun c => absurd c (of_decide_eq_true g211)) (fun _ => ?_)
        refine lv_aload_n hx hb dL_isSound_214 rfl (lv_at hl 0 rfl) ?_
        refine lv_iload hx hb dL_isSound_215 (lv_at hl 4 rfl) ?_
        refine lv_iconst (v := 3) hx hb dL_isSound_217 (by decide) ?_
        obtain ⟨r218, e218, h⟩ := bind_s h
        refine k_cI (va_runV (As := [.int x4, .int (3 : Int32)]) (rest := []) ⟨hx, hb, hml, hown, hts⟩ (kX3_rail l D cI cR q G K x4 (3 : Int32) r218 e218) (cwV 2 hts gL_isSound_X3_rail rfl rfl rfl (by decide +kernel) ⟨Nat.le_of_ble_eq_true rfl, Nat.le_of_ble_eq_true rfl⟩) (mPreV hK hW 0 rfl rfl) rfl rfl hl.1 rfl (lv_room (Nat.le_of_ble_eq_true rfl)) dL_isSound_218 ⟨Nat.le_of_ble_eq_true rfl, Nat.le_of_ble_eq_true rfl⟩) hS hW (fun H locs hW hS => ?_)
        refine lv_if_lt (tgt := 228) hx hb dL_isSound_221 (by decide) (fun c221 => ?_) (fun c221 => ?_)
        · replace h := ite_t h c221
          refine lv_iconst (v := 0) hx hb dL_isSound_228 (by decide) ?_
          refine lv_aload_n hx hb dL_isSound_229 rfl (lv_at hl 0 rfl) ?_
          refine lv_iload hx hb dL_isSound_230 (lv_at hl 4 rfl) ?_
          refine lv_iconst (v := 4) hx hb dL_isSound_232 (by decide) ?_
          obtain ⟨r233, e233, h⟩ := bind_s h
          refine k_cI (va_runV (As := [.int x4, .int (4 : Int32)]) (rest := [.int (0 : Int32)]) ⟨hx, hb, hml, hown, hts⟩ (kX3_rail l D cI cR q G K x4 (4 : Int32) r233 e233) (cwV 2 hts gL_isSound_X3_rail rfl rfl rfl (by decide +kernel) ⟨Nat.le_of_ble_eq_true rfl, Nat.le_of_ble_eq_true rfl⟩) (mPreV hK hW 0 rfl rfl) rfl rfl hl.1 rfl (lv_room (Nat.le_of_ble_eq_true rfl)) dL_isSound_233 ⟨Nat.le_of_ble_eq_true rfl, Nat.le_of_ble_eq_true rfl⟩) hS hW (fun H locs hW hS => ?_)
          refine lv_if_lt (tgt := 243) hx hb dL_isSound_236 (by decide) (fun c236 => ?_) (fun c236 => ?_)
          · replace h := ite_t h c236
            refine lv_iconst (v := 0) hx hb dL_isSound_243 (by decide) ?_
            refine lv_icmp_ne (tgt := 251) hx hb dL_isSound_244 (by decide) (fun c => absurd (by decide) c) (fun _ => ?_)
            refine lv_iconst (v := 1) hx hb dL_isSound_247 (by decide) ?_
            refine lv_goto (tgt := 252) hx hb dL_isSound_248 (by decide) ?_
            refine lv_istore_n (lv' := [(1, .int (1 : Int32)), (0, .ref (q 0)), (2, .int x2), (3, .int x3), (4, .int x4)]) hx hb dL_isSound_252 rfl hl (by decide) rfl (fun ls hl => ?_)
            refine lv_iinc (v := (x4 + 1)) (lv' := [(4, .int (x4 + 1)), (1, .int (1 : Int32)), (0, .ref (q 0)), (2, .int x2), (3, .int x3)]) hx hb dL_isSound_253 hl (k := 4) rfl (congrArg (fun z : Int32 => x4 + z) (show Int32.ofInt (1) = 1 by decide)) (by decide) rfl (fun ls hl => ?_)
            refine lv_goto (tgt := 153) hx hb dL_isSound_256 (by decide) ?_
            exact ih x2 x3 (x4 + 1) _ _ _ h hW hS (lv_sub hl [2, 1, 3, 4, 0] rfl)
          · replace h := ite_f h c236
            refine lv_iconst (v := 1) hx hb dL_isSound_239 (by decide) ?_
            refine lv_goto (tgt := 244) hx hb dL_isSound_240 (by decide) ?_
            cases h
        · replace h := ite_f h c221
          refine lv_iconst (v := 1) hx hb dL_isSound_224 (by decide) ?_
          refine lv_goto (tgt := 229) hx hb dL_isSound_225 (by decide) ?_
          refine lv_aload_n hx hb dL_isSound_229 rfl (lv_at hl 0 rfl) ?_
          refine lv_iload hx hb dL_isSound_230 (lv_at hl 4 rfl) ?_
          refine lv_iconst (v := 4) hx hb dL_isSound_232 (by decide) ?_
          obtain ⟨r233, e233, h⟩ := bind_s h
          refine k_cI (va_runV (As := [.int x4, .int (4 : Int32)]) (rest := [.int (1 : Int32)]) ⟨hx, hb, hml, hown, hts⟩ (kX3_rail l D cI cR q G K x4 (4 : Int32) r233 e233) (cwV 2 hts gL_isSound_X3_rail rfl rfl rfl (by decide +kernel) ⟨Nat.le_of_ble_eq_true rfl, Nat.le_of_ble_eq_true rfl⟩) (mPreV hK hW 0 rfl rfl) rfl rfl hl.1 rfl (lv_room (Nat.le_of_ble_eq_true rfl)) dL_isSound_233 ⟨Nat.le_of_ble_eq_true rfl, Nat.le_of_ble_eq_true rfl⟩) hS hW (fun H locs hW hS => ?_)
          refine lv_if_lt (tgt := 243) hx hb dL_isSound_236 (by decide) (fun c236 => ?_) (fun c236 => ?_)
          · replace h := ite_t h c236
            refine lv_iconst (v := 0) hx hb dL_isSound_243 (by decide) ?_
            cases h
          · replace h := ite_f h c236
            refine lv_iconst (v := 1) hx hb dL_isSound_239 (by decide) ?_
            refine lv_goto (tgt := 244) hx hb dL_isSound_240 (by decide) ?_
            refine lv_icmp_ne (tgt := 251) hx hb dL_isSound_244 (by decide) (fun c => absurd (by decide) c) (fun _ => ?_)
            refine lv_iconst (v := 1) hx hb dL_isSound_247 (by decide) ?_
            refine lv_goto (tgt := 252) hx hb dL_isSound_248 (by decide) ?_
            refine lv_istore_n (lv' := [(1, .int (1 : Int32)), (0, .ref (q 0)), (2, .int x2), (3, .int x3), (4, .int x4)]) hx hb dL_isSound_252 rfl hl (by decide) rfl (fun ls hl => ?_)
            refine lv_iinc (v := (x4 + 1)) (lv' := [(4, .int (x4 + 1)), (1, .int (1 : Int32)), (0, .ref (q 0)), (2, .int x2), (3, .int x3)]) hx hb dL_isSound_253 hl (k := 4) rfl (congrArg (fun z : Int32 => x4 + z) (show Int32.ofInt (1) = 1 by decide)) (by decide) rfl (fun ls hl => ?_)
            refine lv_goto (tgt := 153) hx hb dL_isSound_256 (by decide) ?_
            exact ih x2 x3 (x4 + 1) _ _ _ h hW hS (lv_sub hl [2, 1, 3, 4, 0] rfl)
  have L76 : ∀ (n : Nat), ∀ (x2 : Int32) (x3 : Int32) (x4 : Int32) (H : Heap) (locs : List Loc) (ls : Array Slot), sL_isSound_L76 K G n x2 x3 x4 = some r → MW D cI cR q tmC G H → va_S (fun _ => False) s.heap H locs → lv_has ls 5 [(0, .ref (q 0)), (1, .int (1 : Int32)), (2, .int x2), (3, .int x3), (4, .int x4)] → W p l e (headSpec wsL_isSound ({ frames := 6, cells := 0, slots := 0, locals := 135 } : Room)).room s m args below meth c H locs 0 0 (MQ below (mI (1 : Int32)) args s 0 0 (fun _ => False)) (F0 m 76 ls []) := by
    clear hW hS
    intro n
    induction n with
    | zero => exact fun _ _ _ _ _ _ h => absurd h (by simp [sL_isSound_L76])
    | succ n ih =>
      intro x2 x3 x4 H locs ls h hW hS hl
      rw [sL_isSound_L76] at h
      refine lv_iload hx hb dL_isSound_76 (lv_at hl 4 rfl) ?_
      refine lv_iconst (v := 4) hx hb dL_isSound_78 (by decide) ?_
      refine lv_icmp_ge (tgt := 150) hx hb dL_isSound_79 (by decide) (fun c79 => ?_) (fun c79 => ?_)
      · replace h := ite_t h c79
        refine lv_iconst (v := 0) hx hb dL_isSound_150 (by decide) ?_
        refine lv_istore (lv' := [(4, .int (0 : Int32)), (0, .ref (q 0)), (1, .int (1 : Int32)), (2, .int x2), (3, .int x3)]) hx hb dL_isSound_151 hl (by decide) rfl (fun ls hl => ?_)
        exact L153 K x2 x3 (0 : Int32) _ _ _ h hW hS (lv_sub hl [1, 2, 3, 4, 0] rfl)
      · replace h := ite_f h c79
        refine lv_iload_n hx hb dL_isSound_82 rfl (lv_at hl 2 rfl) ?_
        refine lv_aload_n hx hb dL_isSound_83 rfl (lv_at hl 0 rfl) ?_
        refine lv_iload hx hb dL_isSound_84 (lv_at hl 4 rfl) ?_
        refine lv_bipush (v := 6) hx hb dL_isSound_86 (by decide) ?_
        obtain ⟨r88, e88, h⟩ := bind_s h
        refine k_cI (va_runV (As := [.int x4, .int (6 : Int32)]) (rest := [.int x2]) ⟨hx, hb, hml, hown, hts⟩ (kX3_kind l D cI cR q G K x4 (6 : Int32) r88 e88) (cwV 2 hts gL_isSound_X3_kind rfl rfl rfl (by decide +kernel) ⟨Nat.le_of_ble_eq_true rfl, Nat.le_of_ble_eq_true rfl⟩) (mPreV hK hW 0 rfl rfl) rfl rfl hl.1 rfl (lv_room (Nat.le_of_ble_eq_true rfl)) dL_isSound_88 ⟨Nat.le_of_ble_eq_true rfl, Nat.le_of_ble_eq_true rfl⟩) hS hW (fun H locs hW hS => ?_)
        refine lv_iadd hx hb dL_isSound_91 ?_
        refine lv_istore_n (lv' := [(2, .int (x2 + r88)), (0, .ref (q 0)), (1, .int (1 : Int32)), (3, .int x3), (4, .int x4)]) hx hb dL_isSound_92 rfl hl (by decide) rfl (fun ls hl => ?_)
        refine lv_iload_n hx hb dL_isSound_93 rfl (lv_at hl 3 rfl) ?_
        refine lv_aload_n hx hb dL_isSound_94 rfl (lv_at hl 1 rfl) ?_
        refine lv_iload hx hb dL_isSound_95 (lv_at hl 4 rfl) ?_
        refine lv_iconst (v := 1) hx hb dL_isSound_97 (by decide) ?_
        obtain ⟨r98, e98, h⟩ := bind_s h
        refine k_cI (va_runV (As := [.int x4, .int (1 : Int32)]) (rest := [.int x3]) ⟨hx, hb, hml, hown, hts⟩ (kX3_kind l D cI cR q G K x4 (1 : Int32) r98 e98) (cwV 2 hts gL_isSound_X3_kind rfl rfl rfl (by decide +kernel) ⟨Nat.le_of_ble_eq_true rfl, Nat.le_of_ble_eq_true rfl⟩) (mPreV hK hW 0 rfl rfl) rfl rfl hl.1 rfl (lv_room (Nat.le_of_ble_eq_true rfl)) dL_isSound_98 ⟨Nat.le_of_ble_eq_true rfl, Nat.le_of_ble_eq_true rfl⟩) hS hW (fun H locs hW hS => ?_)
        refine lv_aload_n hx hb dL_isSound_101 rfl (lv_at hl 1 rfl) ?_
        refine lv_iload hx hb dL_isSound_102 (lv_at hl 4 rfl) ?_
        refine lv_iconst (v := 3) hx hb dL_isSound_104 (by decide) ?_
        obtain ⟨r105, e105, h⟩ := bind_s h
        refine k_cI (va_runV (As := [.int x4, .int (3 : Int32)]) (rest := [.int r98, .int x3]) ⟨hx, hb, hml, hown, hts⟩ (kX3_kind l D cI cR q G K x4 (3 : Int32) r105 e105) (cwV 2 hts gL_isSound_X3_kind rfl rfl rfl (by decide +kernel) ⟨Nat.le_of_ble_eq_true rfl, Nat.le_of_ble_eq_true rfl⟩) (mPreV hK hW 0 rfl rfl) rfl rfl hl.1 rfl (lv_room (Nat.le_of_ble_eq_true rfl)) dL_isSound_105 ⟨Nat.le_of_ble_eq_true rfl, Nat.le_of_ble_eq_true rfl⟩) hS hW (fun H locs hW hS => ?_)
        refine lv_imul hx hb dL_isSound_108 ?_
        refine lv_iadd hx hb dL_isSound_109 ?_
        refine lv_istore_n (lv' := [(3, .int (x3 + (r98 * r105))), (2, .int (x2 + r88)), (0, .ref (q 0)), (1, .int (1 : Int32)), (4, .int x4)]) hx hb dL_isSound_110 rfl hl (by decide) rfl (fun ls hl => ?_)
        refine lv_iload_n hx hb dL_isSound_111 rfl (lv_at hl 3 rfl) ?_
        refine lv_if_eq (tgt := 142) hx hb dL_isSound_112 (by decide) (fun c => absurd c (by decide)) (fun _ => ?_)
        refine lv_aload_n hx hb dL_isSound_115 rfl (lv_at hl 2 rfl) ?_
        refine lv_iload hx hb dL_isSound_116 (lv_at hl 4 rfl) ?_
        obtain ⟨r118, e118, h⟩ := bind_s h
        refine k_cI (va_runV (As := [.int x4]) (rest := []) ⟨hx, hb, hml, hown, hts⟩ (kX3_supply l D cI cR q G K x4 r118 e118) (cwV 1 hts gL_isSound_X3_supply rfl rfl rfl (by decide +kernel) ⟨Nat.le_of_ble_eq_true rfl, Nat.le_of_ble_eq_true rfl⟩) (mPreV hK hW 0 rfl rfl) rfl rfl hl.1 rfl (lv_room (Nat.le_of_ble_eq_true rfl)) dL_isSound_118 ⟨Nat.le_of_ble_eq_true rfl, Nat.le_of_ble_eq_true rfl⟩) hS hW (fun H locs hW hS => ?_)
        refine lv_bipush (v := 40) hx hb dL_isSound_121 (by decide) ?_
        obtain ⟨g123, h⟩ := grd_s h
        refine lv_icmp_gt (tgt := 142) hx hb dL_isSound_123 (by decide) (fun c => absurd c (of_decide_eq_true g123)) (fun _ => ?_)
        refine lv_aload_n hx hb dL_isSound_126 rfl (lv_at hl 2 rfl) ?_
        refine lv_iload hx hb dL_isSound_127 (lv_at hl 4 rfl) ?_
        obtain ⟨r129, e129, h⟩ := bind_s h
        refine k_cI (va_runV (As := [.int x4]) (rest := []) ⟨hx, hb, hml, hown, hts⟩ (kX3_mostWear l D cI cR q G K x4 r129 e129) (cwV 1 hts gL_isSound_X3_mostWear rfl rfl rfl (by decide +kernel) ⟨Nat.le_of_ble_eq_true rfl, Nat.le_of_ble_eq_true rfl⟩) (mPreV hK hW 0 rfl rfl) rfl rfl hl.1 rfl (lv_room (Nat.le_of_ble_eq_true rfl)) dL_isSound_129 ⟨Nat.le_of_ble_eq_true rfl, Nat.le_of_ble_eq_true rfl⟩) hS hW (fun H locs hW hS => ?_)
        refine lv_sipush (v := 999) hx hb dL_isSound_132 (by decide) ?_
        obtain ⟨g135, h⟩ := grd_s h
        refine lv_icmp_gt (tgt := 142) hx hb dL_isSound_135 (by decide) (fun c => absurd c (of_decide_eq_true g135)) (fun _ => ?_)
        refine lv_iconst (v := 1) hx hb dL_isSound_138 (by decide) ?_
        refine lv_goto (tgt := 143) hx hb dL_isSound_139 (by decide) ?_
        refine lv_istore_n (lv' := [(1, .int (1 : Int32)), (3, .int (x3 + (r98 * r105))), (2, .int (x2 + r88)), (0, .ref (q 0)), (4, .int x4)]) hx hb dL_isSound_143 rfl hl (by decide) rfl (fun ls hl => ?_)
        refine lv_iinc (v := (x4 + 1)) (lv' := [(4, .int (x4 + 1)), (1, .int (1 : Int32)), (3, .int (x3 + (r98 * r105))), (2, .int (x2 + r88)), (0, .ref (q 0))]) hx hb dL_isSound_144 hl (k := 4) rfl (congrArg (fun z : Int32 => x4 + z) (show Int32.ofInt (1) = 1 by decide)) (by decide) rfl (fun ls hl => ?_)
        refine lv_goto (tgt := 76) hx hb dL_isSound_147 (by decide) ?_
        exact ih (x2 + r88) (x3 + (r98 * r105)) (x4 + 1) _ _ _ h hW hS (lv_sub hl [4, 1, 3, 2, 0] rfl)
  subst hargs
  have hl := lv_entry ([.ref (q 0)]) (n := 5) (Nat.le_of_ble_eq_true rfl)
  rw [lg_entry_eq]
  generalize (lg_sl ([.ref (q 0)]) ++ List.replicate (5 - (lg_sl ([.ref (q 0)])).length) Slot.unset).toArray = ls at hl ⊢
  have hl : lv_has ls 5 [(0, .ref (q 0))] := hl
  have h := hs
  unfold sL_isSound at h
  refine lv_aload_n hx hb dL_isSound_0 rfl (lv_at hl 0 rfl) ?_
  refine lv_iconst (v := 1) hx hb dL_isSound_1 (by decide) ?_
  obtain ⟨r2, e2, h⟩ := bind_s h
  refine k_cI (va_runV (As := [.int (1 : Int32)]) (rest := []) ⟨hx, hb, hml, hown, hts⟩ (kX3_value l D cI cR q G K (1 : Int32) r2 e2) (cwV 1 hts gL_isSound_X3_value rfl rfl rfl (by decide +kernel) ⟨Nat.le_of_ble_eq_true rfl, Nat.le_of_ble_eq_true rfl⟩) (mPreV hK hW 0 rfl rfl) rfl rfl hl.1 rfl (lv_room (Nat.le_of_ble_eq_true rfl)) dL_isSound_2 ⟨Nat.le_of_ble_eq_true rfl, Nat.le_of_ble_eq_true rfl⟩) hS hW (fun H locs hW hS => ?_)
  refine lv_aload_n hx hb dL_isSound_5 rfl (lv_at hl 0 rfl) ?_
  refine lv_iconst (v := 2) hx hb dL_isSound_6 (by decide) ?_
  obtain ⟨r7, e7, h⟩ := bind_s h
  refine k_cI (va_runV (As := [.int (2 : Int32)]) (rest := [.int r2]) ⟨hx, hb, hml, hown, hts⟩ (kX3_value l D cI cR q G K (2 : Int32) r7 e7) (cwV 1 hts gL_isSound_X3_value rfl rfl rfl (by decide +kernel) ⟨Nat.le_of_ble_eq_true rfl, Nat.le_of_ble_eq_true rfl⟩) (mPreV hK hW 0 rfl rfl) rfl rfl hl.1 rfl (lv_room (Nat.le_of_ble_eq_true rfl)) dL_isSound_7 ⟨Nat.le_of_ble_eq_true rfl, Nat.le_of_ble_eq_true rfl⟩) hS hW (fun H locs hW hS => ?_)
  refine lv_aload_n hx hb dL_isSound_10 rfl (lv_at hl 0 rfl) ?_
  refine lv_iconst (v := 3) hx hb dL_isSound_11 (by decide) ?_
  obtain ⟨r12, e12, h⟩ := bind_s h
  refine k_cI (va_runV (As := [.int (3 : Int32)]) (rest := [.int r7, .int r2]) ⟨hx, hb, hml, hown, hts⟩ (kX3_value l D cI cR q G K (3 : Int32) r12 e12) (cwV 1 hts gL_isSound_X3_value rfl rfl rfl (by decide +kernel) ⟨Nat.le_of_ble_eq_true rfl, Nat.le_of_ble_eq_true rfl⟩) (mPreV hK hW 0 rfl rfl) rfl rfl hl.1 rfl (lv_room (Nat.le_of_ble_eq_true rfl)) dL_isSound_12 ⟨Nat.le_of_ble_eq_true rfl, Nat.le_of_ble_eq_true rfl⟩) hS hW (fun H locs hW hS => ?_)
  refine lv_iadd hx hb dL_isSound_15 ?_
  refine lv_aload_n hx hb dL_isSound_16 rfl (lv_at hl 0 rfl) ?_
  refine lv_iconst (v := 4) hx hb dL_isSound_17 (by decide) ?_
  obtain ⟨r18, e18, h⟩ := bind_s h
  refine k_cI (va_runV (As := [.int (4 : Int32)]) (rest := [.int (r7 + r12), .int r2]) ⟨hx, hb, hml, hown, hts⟩ (kX3_value l D cI cR q G K (4 : Int32) r18 e18) (cwV 1 hts gL_isSound_X3_value rfl rfl rfl (by decide +kernel) ⟨Nat.le_of_ble_eq_true rfl, Nat.le_of_ble_eq_true rfl⟩) (mPreV hK hW 0 rfl rfl) rfl rfl hl.1 rfl (lv_room (Nat.le_of_ble_eq_true rfl)) dL_isSound_18 ⟨Nat.le_of_ble_eq_true rfl, Nat.le_of_ble_eq_true rfl⟩) hS hW (fun H locs hW hS => ?_)
  refine lv_iadd hx hb dL_isSound_21 ?_
  refine lv_aload_n hx hb dL_isSound_22 rfl (lv_at hl 0 rfl) ?_
  refine lv_iconst (v := 5) hx hb dL_isSound_23 (by decide) ?_
  obtain ⟨r24, e24, h⟩ := bind_s h
  refine k_cI (va_runV (As := [.int (5 : Int32)]) (rest := [.int ((r7 + r12) + r18), .int r2]) ⟨hx, hb, hml, hown, hts⟩ (kX3_value l D cI cR q G K (5 : Int32) r24 e24) (cwV 1 hts gL_isSound_X3_value rfl rfl rfl (by decide +kernel) ⟨Nat.le_of_ble_eq_true rfl, Nat.le_of_ble_eq_true rfl⟩) (mPreV hK hW 0 rfl rfl) rfl rfl hl.1 rfl (lv_room (Nat.le_of_ble_eq_true rfl)) dL_isSound_24 ⟨Nat.le_of_ble_eq_true rfl, Nat.le_of_ble_eq_true rfl⟩) hS hW (fun H locs hW hS => ?_)
  refine lv_iadd hx hb dL_isSound_27 ?_
  obtain ⟨g28, h⟩ := grd_s h
  refine lv_icmp_ne (tgt := 67) hx hb dL_isSound_28 (by decide) (fun c => absurd (of_decide_eq_true g28) c) (fun _ => ?_)
  refine lv_aload_n hx hb dL_isSound_31 rfl (lv_at hl 0 rfl) ?_
  refine lv_bipush (v := 6) hx hb dL_isSound_32 (by decide) ?_
  obtain ⟨r34, e34, h⟩ := bind_s h
  refine k_cI (va_runV (As := [.int (6 : Int32)]) (rest := []) ⟨hx, hb, hml, hown, hts⟩ (kX3_value l D cI cR q G K (6 : Int32) r34 e34) (cwV 1 hts gL_isSound_X3_value rfl rfl rfl (by decide +kernel) ⟨Nat.le_of_ble_eq_true rfl, Nat.le_of_ble_eq_true rfl⟩) (mPreV hK hW 0 rfl rfl) rfl rfl hl.1 rfl (lv_room (Nat.le_of_ble_eq_true rfl)) dL_isSound_34 ⟨Nat.le_of_ble_eq_true rfl, Nat.le_of_ble_eq_true rfl⟩) hS hW (fun H locs hW hS => ?_)
  refine lv_aload_n hx hb dL_isSound_37 rfl (lv_at hl 0 rfl) ?_
  refine lv_iconst (v := 2) hx hb dL_isSound_38 (by decide) ?_
  obtain ⟨r39, e39, h⟩ := bind_s h
  refine k_cI (va_runV (As := [.int (2 : Int32)]) (rest := [.int r34]) ⟨hx, hb, hml, hown, hts⟩ (kX3_value l D cI cR q G K (2 : Int32) r39 e39) (cwV 1 hts gL_isSound_X3_value rfl rfl rfl (by decide +kernel) ⟨Nat.le_of_ble_eq_true rfl, Nat.le_of_ble_eq_true rfl⟩) (mPreV hK hW 0 rfl rfl) rfl rfl hl.1 rfl (lv_room (Nat.le_of_ble_eq_true rfl)) dL_isSound_39 ⟨Nat.le_of_ble_eq_true rfl, Nat.le_of_ble_eq_true rfl⟩) hS hW (fun H locs hW hS => ?_)
  obtain ⟨g42, h⟩ := grd_s h
  refine lv_icmp_gt (tgt := 67) hx hb dL_isSound_42 (by decide) (fun c => absurd c (of_decide_eq_true g42)) (fun _ => ?_)
  refine lv_aload_n hx hb dL_isSound_45 rfl (lv_at hl 0 rfl) ?_
  obtain ⟨r46, e46, h⟩ := bind_s h
  refine k_cD (va_runV (As := []) (rest := []) ⟨hx, hb, hml, hown, hts⟩ (kX3_right l D cI cR q G K r46 e46) (cwV 0 hts gL_isSound_X3_right rfl rfl rfl (by decide +kernel) ⟨Nat.le_of_ble_eq_true rfl, Nat.le_of_ble_eq_true rfl⟩) (mPreV hK hW 0 rfl rfl) rfl rfl hl.1 rfl (lv_room (Nat.le_of_ble_eq_true rfl)) dL_isSound_46 ⟨Nat.le_of_ble_eq_true rfl, Nat.le_of_ble_eq_true rfl⟩) hS hW (fun H locs hW hS => ?_)
  refine lv_dconst0 hx hb dL_isSound_49 ?_
  refine lv_dcmp hx hb dL_isSound_50 ?_
  obtain ⟨g51, h⟩ := grd_s h
  refine lv_if_lt (tgt := 67) hx hb dL_isSound_51 (by decide) (fun c => absurd c (of_decide_eq_true g51)) (fun _ => ?_)
  refine lv_aload_n hx hb dL_isSound_54 rfl (lv_at hl 0 rfl) ?_
  obtain ⟨r55, e55, h⟩ := bind_s h
  refine k_cD (va_runV (As := []) (rest := []) ⟨hx, hb, hml, hown, hts⟩ (kX3_right l D cI cR q G K r55 e55) (cwV 0 hts gL_isSound_X3_right rfl rfl rfl (by decide +kernel) ⟨Nat.le_of_ble_eq_true rfl, Nat.le_of_ble_eq_true rfl⟩) (mPreV hK hW 0 rfl rfl) rfl rfl hl.1 rfl (lv_room (Nat.le_of_ble_eq_true rfl)) dL_isSound_55 ⟨Nat.le_of_ble_eq_true rfl, Nat.le_of_ble_eq_true rfl⟩) hS hW (fun H locs hW hS => ?_)
  refine lv_dconst1 hx hb dL_isSound_58 ?_
  refine lv_dcmp hx hb dL_isSound_59 ?_
  obtain ⟨g60, h⟩ := grd_s h
  refine lv_if_gt (tgt := 67) hx hb dL_isSound_60 (by decide) (fun c => absurd c (of_decide_eq_true g60)) (fun _ => ?_)
  refine lv_iconst (v := 1) hx hb dL_isSound_63 (by decide) ?_
  refine lv_goto (tgt := 68) hx hb dL_isSound_64 (by decide) ?_
  refine lv_istore_n (lv' := [(1, .int (1 : Int32)), (0, .ref (q 0))]) hx hb dL_isSound_68 rfl hl (by decide) rfl (fun ls hl => ?_)
  refine lv_iconst (v := 0) hx hb dL_isSound_69 (by decide) ?_
  refine lv_istore_n (lv' := [(2, .int (0 : Int32)), (1, .int (1 : Int32)), (0, .ref (q 0))]) hx hb dL_isSound_70 rfl hl (by decide) rfl (fun ls hl => ?_)
  refine lv_iconst (v := 0) hx hb dL_isSound_71 (by decide) ?_
  refine lv_istore_n (lv' := [(3, .int (0 : Int32)), (2, .int (0 : Int32)), (1, .int (1 : Int32)), (0, .ref (q 0))]) hx hb dL_isSound_72 rfl hl (by decide) rfl (fun ls hl => ?_)
  refine lv_iconst (v := 0) hx hb dL_isSound_73 (by decide) ?_
  refine lv_istore (lv' := [(4, .int (0 : Int32)), (3, .int (0 : Int32)), (2, .int (0 : Int32)), (1, .int (1 : Int32)), (0, .ref (q 0))]) hx hb dL_isSound_74 hl (by decide) rfl (fun ls hl => ?_)
  exact L76 K (0 : Int32) (0 : Int32) (0 : Int32) _ _ _ h hW hS (lv_sub hl [4, 3, 2, 1, 0] rfl)
