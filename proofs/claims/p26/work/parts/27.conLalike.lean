set_option maxHeartbeats 8000000 in
set_option maxRecDepth 100000 in
theorem kL_areAlike (l : Launch) (D : va_G) (cI cR : ClassId) (q1 q2 : Nat → Nat) (hJ : J2 q1 q2) (K : Nat) (G : (Nat → Nat → Int32)) (P : (Nat → Nat → Int32)) (r : Unit) (hs : sL_areAlike K G P = some r) : Met l yL_areAlike wsL_areAlike ({ frames := 6, cells := 0, slots := 0, locals := 135 } : Room) (lPre2 [.ref (q1 0), .ref (q2 0)] D cI cR q1 q2 G P) (mI (1 : Int32)) 0 0 (fun _ => False) := by
  refine Met.ofW (cc := cL_areAlike) (maxL := 6) (ret := (some .boolean)) (by decide) rfl ?_
  intro p e s m args below meth c s₁ B hml hv
  obtain ⟨hargs, hW, hK⟩ := hv
  have hx := B.exec
  have hb := B.bytes
  have hr := B.returns
  have hts := atoms_spec (ws := wsL_areAlike) B.pre
  have hown : s.vm.findClass RL = some m.cls := findClass_of_methodNamed B.named
  have hlocks := B.notSynchronized
  have hS : va_S (fun _ => False) s.heap s.heap [] := va_S.rf
  have L179 : ∀ (n : Nat), (∀ (x3 : Int32) (H : Heap) (locs : List Loc) (ls : Array Slot), sL_areAlike_L179 K G P n 0 x3 0 = some r → W2 D cI cR q1 q2 G P H → va_S (fun _ => False) s.heap H locs → lv_has ls 6 [(0, .ref (q1 0)), (1, .ref (q2 0)), (2, .int (1 : Int32)), (3, .int x3)] → W p l e (headSpec wsL_areAlike ({ frames := 6, cells := 0, slots := 0, locals := 135 } : Room)).room s m args below meth c H locs 0 0 (MQ below (mI (1 : Int32)) args s 0 0 (fun _ => False)) (F0 m 179 ls [])) ∧ (∀ (x3 : Int32) (x4 : Int32) (H : Heap) (locs : List Loc) (ls : Array Slot), sL_areAlike_L179 K G P n 1 x3 x4 = some r → W2 D cI cR q1 q2 G P H → va_S (fun _ => False) s.heap H locs → lv_has ls 6 [(0, .ref (q1 0)), (1, .ref (q2 0)), (2, .int (1 : Int32)), (3, .int x3), (4, .int x4)] → W p l e (headSpec wsL_areAlike ({ frames := 6, cells := 0, slots := 0, locals := 135 } : Room)).room s m args below meth c H locs 0 0 (MQ below (mI (1 : Int32)) args s 0 0 (fun _ => False)) (F0 m 191 ls [])) := by
    clear hW hS
    intro n
    induction n with
    | zero => exact ⟨fun _ _ _ _ h => absurd h (by simp [sL_areAlike_L179]), fun _ _ _ _ _ h => absurd h (by simp [sL_areAlike_L179])⟩
    | succ n ih =>
      refine ⟨?_, ?_⟩
      · intro x3 H locs ls h hW hS hl
        rw [sL_areAlike_L179] at h
        refine lv_iload_n hx hb dL_areAlike_179 rfl (lv_at hl 3 rfl) ?_
        refine lv_iconst (v := 4) hx hb dL_areAlike_180 (by decide) ?_
        refine lv_icmp_ge (tgt := 296) hx hb dL_areAlike_181 (by decide) (fun c181 => ?_) (fun c181 => ?_)
        · replace h := ite_t h c181
          refine lv_iload_n hx hb dL_areAlike_296 rfl (lv_at hl 2 rfl) ?_
          have h := Option.some.inj h
          exact W.zret (ty := .boolean) (v := (1 : Int32)) hx hb hr rfl (fun t ht hV => ⟨⟨(1 : Int32), (), rfl, rfl, trivial⟩, hS.F ht⟩) hS.2.2 dL_areAlike_297
        · replace h := ite_f h c181
          refine lv_iload_n hx hb dL_areAlike_184 rfl (lv_at hl 2 rfl) ?_
          refine lv_if_eq (tgt := 296) hx hb dL_areAlike_185 (by decide) (fun c => absurd c (by decide)) (fun _ => ?_)
          refine lv_iconst (v := 0) hx hb dL_areAlike_188 (by decide) ?_
          refine lv_istore (lv' := [(4, .int (0 : Int32)), (0, .ref (q1 0)), (1, .ref (q2 0)), (2, .int (1 : Int32)), (3, .int x3)]) hx hb dL_areAlike_189 hl (by decide) rfl (fun ls hl => ?_)
          exact (ih).2 x3 (0 : Int32) _ _ _ h hW hS (lv_sub hl [1, 2, 3, 4, 0] rfl)
      · intro x3 x4 H locs ls h hW hS hl
        rw [sL_areAlike_L179] at h
        refine lv_iload hx hb dL_areAlike_191 (lv_at hl 4 rfl) ?_
        refine lv_bipush (v := 7) hx hb dL_areAlike_193 (by decide) ?_
        refine lv_icmp_ge (tgt := 233) hx hb dL_areAlike_195 (by decide) (fun c195 => ?_) (fun c195 => ?_)
        · replace h := ite_t h c195
          refine lv_iload_n hx hb dL_areAlike_233 rfl (lv_at hl 2 rfl) ?_
          refine lv_if_eq (tgt := 288) hx hb dL_areAlike_234 (by decide) (fun c => absurd c (by decide)) (fun _ => ?_)
          refine lv_aload_n hx hb dL_areAlike_237 rfl (lv_at hl 0 rfl) ?_
          refine lv_iload_n hx hb dL_areAlike_238 rfl (lv_at hl 3 rfl) ?_
          obtain ⟨r239, e239, h⟩ := bind_s h
          refine k2_cI (va_runV (As := [.int x3]) (rest := []) ⟨hx, hb, hml, hown, hts⟩ (kX3_supply l D cI cR q1 G K x3 r239 e239) (cwV 1 hts gL_areAlike_X3_supply rfl rfl rfl (by decide +kernel) ⟨Nat.le_of_ble_eq_true rfl, Nat.le_of_ble_eq_true rfl⟩) (mPreV hK hW.1 0 rfl rfl) rfl rfl hl.1 rfl (lv_room (Nat.le_of_ble_eq_true rfl)) dL_areAlike_239 ⟨Nat.le_of_ble_eq_true rfl, Nat.le_of_ble_eq_true rfl⟩) hS hW (fun H locs hW hS => ?_)
          refine lv_aload_n hx hb dL_areAlike_242 rfl (lv_at hl 1 rfl) ?_
          refine lv_iconst (v := 3) hx hb dL_areAlike_243 (by decide) ?_
          refine lv_iload_n hx hb dL_areAlike_244 rfl (lv_at hl 3 rfl) ?_
          refine lv_isub hx hb dL_areAlike_245 ?_
          obtain ⟨r246, e246, h⟩ := bind_s h
          refine k2_cI (va_runV (As := [.int ((3 : Int32) - x3)]) (rest := [.int r239]) ⟨hx, hb, hml, hown, hts⟩ (kX3_supply l D cI cR q2 P K ((3 : Int32) - x3) r246 e246) (cwV 1 hts gL_areAlike_X3_supply rfl rfl rfl (by decide +kernel) ⟨Nat.le_of_ble_eq_true rfl, Nat.le_of_ble_eq_true rfl⟩) (mPreV hK hW.2 0 rfl rfl) rfl rfl hl.1 rfl (lv_room (Nat.le_of_ble_eq_true rfl)) dL_areAlike_246 ⟨Nat.le_of_ble_eq_true rfl, Nat.le_of_ble_eq_true rfl⟩) hS hW (fun H locs hW hS => ?_)
          obtain ⟨g249, h⟩ := grd_s h
          refine lv_icmp_ne (tgt := 288) hx hb dL_areAlike_249 (by decide) (fun c => absurd (of_decide_eq_true g249) c) (fun _ => ?_)
          refine lv_aload_n hx hb dL_areAlike_252 rfl (lv_at hl 0 rfl) ?_
          refine lv_iload_n hx hb dL_areAlike_253 rfl (lv_at hl 3 rfl) ?_
          obtain ⟨r254, e254, h⟩ := bind_s h
          refine k2_cI (va_runV (As := [.int x3]) (rest := []) ⟨hx, hb, hml, hown, hts⟩ (kX3_mostWear l D cI cR q1 G K x3 r254 e254) (cwV 1 hts gL_areAlike_X3_mostWear rfl rfl rfl (by decide +kernel) ⟨Nat.le_of_ble_eq_true rfl, Nat.le_of_ble_eq_true rfl⟩) (mPreV hK hW.1 0 rfl rfl) rfl rfl hl.1 rfl (lv_room (Nat.le_of_ble_eq_true rfl)) dL_areAlike_254 ⟨Nat.le_of_ble_eq_true rfl, Nat.le_of_ble_eq_true rfl⟩) hS hW (fun H locs hW hS => ?_)
          refine lv_aload_n hx hb dL_areAlike_257 rfl (lv_at hl 1 rfl) ?_
          refine lv_iconst (v := 3) hx hb dL_areAlike_258 (by decide) ?_
          refine lv_iload_n hx hb dL_areAlike_259 rfl (lv_at hl 3 rfl) ?_
          refine lv_isub hx hb dL_areAlike_260 ?_
          obtain ⟨r261, e261, h⟩ := bind_s h
          refine k2_cI (va_runV (As := [.int ((3 : Int32) - x3)]) (rest := [.int r254]) ⟨hx, hb, hml, hown, hts⟩ (kX3_mostWear l D cI cR q2 P K ((3 : Int32) - x3) r261 e261) (cwV 1 hts gL_areAlike_X3_mostWear rfl rfl rfl (by decide +kernel) ⟨Nat.le_of_ble_eq_true rfl, Nat.le_of_ble_eq_true rfl⟩) (mPreV hK hW.2 0 rfl rfl) rfl rfl hl.1 rfl (lv_room (Nat.le_of_ble_eq_true rfl)) dL_areAlike_261 ⟨Nat.le_of_ble_eq_true rfl, Nat.le_of_ble_eq_true rfl⟩) hS hW (fun H locs hW hS => ?_)
          obtain ⟨g264, h⟩ := grd_s h
          refine lv_icmp_ne (tgt := 288) hx hb dL_areAlike_264 (by decide) (fun c => absurd (of_decide_eq_true g264) c) (fun _ => ?_)
          refine lv_aload_n hx hb dL_areAlike_267 rfl (lv_at hl 0 rfl) ?_
          refine lv_iload_n hx hb dL_areAlike_268 rfl (lv_at hl 3 rfl) ?_
          refine lv_iload_n hx hb dL_areAlike_269 rfl (lv_at hl 3 rfl) ?_
          obtain ⟨r270, e270, h⟩ := bind_s h
          refine k2_cI (va_runV (As := [.int x3, .int x3]) (rest := []) ⟨hx, hb, hml, hown, hts⟩ (kX3_count l D cI cR q1 G K x3 x3 r270 e270) (cwV 2 hts gL_areAlike_X3_count rfl rfl rfl (by decide +kernel) ⟨Nat.le_of_ble_eq_true rfl, Nat.le_of_ble_eq_true rfl⟩) (mPreV hK hW.1 0 rfl rfl) rfl rfl hl.1 rfl (lv_room (Nat.le_of_ble_eq_true rfl)) dL_areAlike_270 ⟨Nat.le_of_ble_eq_true rfl, Nat.le_of_ble_eq_true rfl⟩) hS hW (fun H locs hW hS => ?_)
          refine lv_aload_n hx hb dL_areAlike_273 rfl (lv_at hl 1 rfl) ?_
          refine lv_iload_n hx hb dL_areAlike_274 rfl (lv_at hl 3 rfl) ?_
          refine lv_iconst (v := 3) hx hb dL_areAlike_275 (by decide) ?_
          refine lv_iload_n hx hb dL_areAlike_276 rfl (lv_at hl 3 rfl) ?_
          refine lv_isub hx hb dL_areAlike_277 ?_
          obtain ⟨r278, e278, h⟩ := bind_s h
          refine k2_cI (va_runV (As := [.int x3, .int ((3 : Int32) - x3)]) (rest := [.int r270]) ⟨hx, hb, hml, hown, hts⟩ (kX3_count l D cI cR q2 P K x3 ((3 : Int32) - x3) r278 e278) (cwV 2 hts gL_areAlike_X3_count rfl rfl rfl (by decide +kernel) ⟨Nat.le_of_ble_eq_true rfl, Nat.le_of_ble_eq_true rfl⟩) (mPreV hK hW.2 0 rfl rfl) rfl rfl hl.1 rfl (lv_room (Nat.le_of_ble_eq_true rfl)) dL_areAlike_278 ⟨Nat.le_of_ble_eq_true rfl, Nat.le_of_ble_eq_true rfl⟩) hS hW (fun H locs hW hS => ?_)
          obtain ⟨g281, h⟩ := grd_s h
          refine lv_icmp_ne (tgt := 288) hx hb dL_areAlike_281 (by decide) (fun c => absurd (of_decide_eq_true g281) c) (fun _ => ?_)
          refine lv_iconst (v := 1) hx hb dL_areAlike_284 (by decide) ?_
          refine lv_goto (tgt := 289) hx hb dL_areAlike_285 (by decide) ?_
          refine lv_istore_n (lv' := [(2, .int (1 : Int32)), (0, .ref (q1 0)), (1, .ref (q2 0)), (3, .int x3), (4, .int x4)]) hx hb dL_areAlike_289 rfl hl (by decide) rfl (fun ls hl => ?_)
          refine lv_iinc (v := (x3 + 1)) (lv' := [(3, .int (x3 + 1)), (2, .int (1 : Int32)), (0, .ref (q1 0)), (1, .ref (q2 0)), (4, .int x4)]) hx hb dL_areAlike_290 hl (k := 3) rfl (congrArg (fun z : Int32 => x3 + z) (show Int32.ofInt (1) = 1 by decide)) (by decide) rfl (fun ls hl => ?_)
          refine lv_goto (tgt := 179) hx hb dL_areAlike_293 (by decide) ?_
          exact (ih).1 (x3 + 1) _ _ _ h hW hS (lv_sub hl [2, 3, 1, 0] rfl)
        · replace h := ite_f h c195
          refine lv_iload_n hx hb dL_areAlike_198 rfl (lv_at hl 2 rfl) ?_
          refine lv_if_eq (tgt := 225) hx hb dL_areAlike_199 (by decide) (fun c => absurd c (by decide)) (fun _ => ?_)
          refine lv_aload_n hx hb dL_areAlike_202 rfl (lv_at hl 0 rfl) ?_
          refine lv_iload_n hx hb dL_areAlike_203 rfl (lv_at hl 3 rfl) ?_
          refine lv_iload hx hb dL_areAlike_204 (lv_at hl 4 rfl) ?_
          obtain ⟨r206, e206, h⟩ := bind_s h
          refine k2_cI (va_runV (As := [.int x3, .int x4]) (rest := []) ⟨hx, hb, hml, hown, hts⟩ (kX3_kind l D cI cR q1 G K x3 x4 r206 e206) (cwV 2 hts gL_areAlike_X3_kind rfl rfl rfl (by decide +kernel) ⟨Nat.le_of_ble_eq_true rfl, Nat.le_of_ble_eq_true rfl⟩) (mPreV hK hW.1 0 rfl rfl) rfl rfl hl.1 rfl (lv_room (Nat.le_of_ble_eq_true rfl)) dL_areAlike_206 ⟨Nat.le_of_ble_eq_true rfl, Nat.le_of_ble_eq_true rfl⟩) hS hW (fun H locs hW hS => ?_)
          refine lv_aload_n hx hb dL_areAlike_209 rfl (lv_at hl 1 rfl) ?_
          refine lv_iconst (v := 3) hx hb dL_areAlike_210 (by decide) ?_
          refine lv_iload_n hx hb dL_areAlike_211 rfl (lv_at hl 3 rfl) ?_
          refine lv_isub hx hb dL_areAlike_212 ?_
          refine lv_iload hx hb dL_areAlike_213 (lv_at hl 4 rfl) ?_
          obtain ⟨r215, e215, h⟩ := bind_s h
          refine k2_cI (va_runV (As := [.int ((3 : Int32) - x3), .int x4]) (rest := [.int r206]) ⟨hx, hb, hml, hown, hts⟩ (kX3_kind l D cI cR q2 P K ((3 : Int32) - x3) x4 r215 e215) (cwV 2 hts gL_areAlike_X3_kind rfl rfl rfl (by decide +kernel) ⟨Nat.le_of_ble_eq_true rfl, Nat.le_of_ble_eq_true rfl⟩) (mPreV hK hW.2 0 rfl rfl) rfl rfl hl.1 rfl (lv_room (Nat.le_of_ble_eq_true rfl)) dL_areAlike_215 ⟨Nat.le_of_ble_eq_true rfl, Nat.le_of_ble_eq_true rfl⟩) hS hW (fun H locs hW hS => ?_)
          obtain ⟨g218, h⟩ := grd_s h
          refine lv_icmp_ne (tgt := 225) hx hb dL_areAlike_218 (by decide) (fun c => absurd (of_decide_eq_true g218) c) (fun _ => ?_)
          refine lv_iconst (v := 1) hx hb dL_areAlike_221 (by decide) ?_
          refine lv_goto (tgt := 226) hx hb dL_areAlike_222 (by decide) ?_
          refine lv_istore_n (lv' := [(2, .int (1 : Int32)), (0, .ref (q1 0)), (1, .ref (q2 0)), (3, .int x3), (4, .int x4)]) hx hb dL_areAlike_226 rfl hl (by decide) rfl (fun ls hl => ?_)
          refine lv_iinc (v := (x4 + 1)) (lv' := [(4, .int (x4 + 1)), (2, .int (1 : Int32)), (0, .ref (q1 0)), (1, .ref (q2 0)), (3, .int x3)]) hx hb dL_areAlike_227 hl (k := 4) rfl (congrArg (fun z : Int32 => x4 + z) (show Int32.ofInt (1) = 1 by decide)) (by decide) rfl (fun ls hl => ?_)
          refine lv_goto (tgt := 191) hx hb dL_areAlike_230 (by decide) ?_
          exact (ih).2 x3 (x4 + 1) _ _ _ h hW hS (lv_sub hl [2, 3, 1, 4, 0] rfl)
  have L57 : ∀ (n : Nat), (∀ (x3 : Int32) (H : Heap) (locs : List Loc) (ls : Array Slot), sL_areAlike_L57 K G P n 0 x3 0 = some r → W2 D cI cR q1 q2 G P H → va_S (fun _ => False) s.heap H locs → lv_has ls 6 [(0, .ref (q1 0)), (1, .ref (q2 0)), (2, .int (1 : Int32)), (3, .int x3)] → W p l e (headSpec wsL_areAlike ({ frames := 6, cells := 0, slots := 0, locals := 135 } : Room)).room s m args below meth c H locs 0 0 (MQ below (mI (1 : Int32)) args s 0 0 (fun _ => False)) (F0 m 57 ls [])) ∧ (∀ (x3 : Int32) (x4 : Int32) (H : Heap) (locs : List Loc) (ls : Array Slot), sL_areAlike_L57 K G P n 1 x3 x4 = some r → W2 D cI cR q1 q2 G P H → va_S (fun _ => False) s.heap H locs → lv_has ls 6 [(0, .ref (q1 0)), (1, .ref (q2 0)), (2, .int (1 : Int32)), (3, .int x3), (4, .int x4)] → W p l e (headSpec wsL_areAlike ({ frames := 6, cells := 0, slots := 0, locals := 135 } : Room)).room s m args below meth c H locs 0 0 (MQ below (mI (1 : Int32)) args s 0 0 (fun _ => False)) (F0 m 70 ls [])) := by
    clear hW hS
    intro n
    induction n with
    | zero => exact ⟨fun _ _ _ _ h => absurd h (by simp [sL_areAlike_L57]), fun _ _ _ _ _ h => absurd h (by simp [sL_areAlike_L57])⟩
    | succ n ih =>
      refine ⟨?_, ?_⟩
      · intro x3 H locs ls h hW hS hl
        rw [sL_areAlike_L57] at h
        refine lv_iload_n hx hb dL_areAlike_57 rfl (lv_at hl 3 rfl) ?_
        refine lv_bipush (v := 6) hx hb dL_areAlike_58 (by decide) ?_
        refine lv_icmp_ge (tgt := 177) hx hb dL_areAlike_60 (by decide) (fun c60 => ?_) (fun c60 => ?_)
        · replace h := ite_t h c60
          refine lv_iconst (v := 0) hx hb dL_areAlike_177 (by decide) ?_
          refine lv_istore_n (lv' := [(3, .int (0 : Int32)), (0, .ref (q1 0)), (1, .ref (q2 0)), (2, .int (1 : Int32))]) hx hb dL_areAlike_178 rfl hl (by decide) rfl (fun ls hl => ?_)
          exact (L179 K).1 (0 : Int32) _ _ _ h hW hS (lv_sub hl [1, 2, 3, 0] rfl)
        · replace h := ite_f h c60
          refine lv_iload_n hx hb dL_areAlike_63 rfl (lv_at hl 2 rfl) ?_
          refine lv_if_eq (tgt := 177) hx hb dL_areAlike_64 (by decide) (fun c => absurd c (by decide)) (fun _ => ?_)
          refine lv_iconst (v := 0) hx hb dL_areAlike_67 (by decide) ?_
          refine lv_istore (lv' := [(4, .int (0 : Int32)), (0, .ref (q1 0)), (1, .ref (q2 0)), (2, .int (1 : Int32)), (3, .int x3)]) hx hb dL_areAlike_68 hl (by decide) rfl (fun ls hl => ?_)
          exact (ih).2 x3 (0 : Int32) _ _ _ h hW hS (lv_sub hl [1, 2, 3, 4, 0] rfl)
      · intro x3 x4 H locs ls h hW hS hl
        rw [sL_areAlike_L57] at h
        refine lv_iload hx hb dL_areAlike_70 (lv_at hl 4 rfl) ?_
        refine lv_bipush (v := 10) hx hb dL_areAlike_72 (by decide) ?_
        refine lv_icmp_ge (tgt := 148) hx hb dL_areAlike_74 (by decide) (fun c74 => ?_) (fun c74 => ?_)
        · replace h := ite_t h c74
          refine lv_iload_n hx hb dL_areAlike_148 rfl (lv_at hl 2 rfl) ?_
          refine lv_if_eq (tgt := 169) hx hb dL_areAlike_149 (by decide) (fun c => absurd c (by decide)) (fun _ => ?_)
          refine lv_aload_n hx hb dL_areAlike_152 rfl (lv_at hl 0 rfl) ?_
          refine lv_iload_n hx hb dL_areAlike_153 rfl (lv_at hl 3 rfl) ?_
          obtain ⟨r154, e154, h⟩ := bind_s h
          refine k2_cI (va_runV (As := [.int x3]) (rest := []) ⟨hx, hb, hml, hown, hts⟩ (kX3_bestGap l D cI cR q1 G K x3 r154 e154) (cwV 1 hts gL_areAlike_X3_bestGap rfl rfl rfl (by decide +kernel) ⟨Nat.le_of_ble_eq_true rfl, Nat.le_of_ble_eq_true rfl⟩) (mPreV hK hW.1 0 rfl rfl) rfl rfl hl.1 rfl (lv_room (Nat.le_of_ble_eq_true rfl)) dL_areAlike_154 ⟨Nat.le_of_ble_eq_true rfl, Nat.le_of_ble_eq_true rfl⟩) hS hW (fun H locs hW hS => ?_)
          refine lv_aload_n hx hb dL_areAlike_157 rfl (lv_at hl 1 rfl) ?_
          refine lv_iload_n hx hb dL_areAlike_158 rfl (lv_at hl 3 rfl) ?_
          obtain ⟨r159, e159, h⟩ := bind_s h
          refine k2_cI (va_runV (As := [.int x3]) (rest := [.int r154]) ⟨hx, hb, hml, hown, hts⟩ (kX3_bestGap l D cI cR q2 P K x3 r159 e159) (cwV 1 hts gL_areAlike_X3_bestGap rfl rfl rfl (by decide +kernel) ⟨Nat.le_of_ble_eq_true rfl, Nat.le_of_ble_eq_true rfl⟩) (mPreV hK hW.2 0 rfl rfl) rfl rfl hl.1 rfl (lv_room (Nat.le_of_ble_eq_true rfl)) dL_areAlike_159 ⟨Nat.le_of_ble_eq_true rfl, Nat.le_of_ble_eq_true rfl⟩) hS hW (fun H locs hW hS => ?_)
          obtain ⟨g162, h⟩ := grd_s h
          refine lv_icmp_ne (tgt := 169) hx hb dL_areAlike_162 (by decide) (fun c => absurd (of_decide_eq_true g162) c) (fun _ => ?_)
          refine lv_iconst (v := 1) hx hb dL_areAlike_165 (by decide) ?_
          refine lv_goto (tgt := 170) hx hb dL_areAlike_166 (by decide) ?_
          refine lv_istore_n (lv' := [(2, .int (1 : Int32)), (0, .ref (q1 0)), (1, .ref (q2 0)), (3, .int x3), (4, .int x4)]) hx hb dL_areAlike_170 rfl hl (by decide) rfl (fun ls hl => ?_)
          refine lv_iinc (v := (x3 + 1)) (lv' := [(3, .int (x3 + 1)), (2, .int (1 : Int32)), (0, .ref (q1 0)), (1, .ref (q2 0)), (4, .int x4)]) hx hb dL_areAlike_171 hl (k := 3) rfl (congrArg (fun z : Int32 => x3 + z) (show Int32.ofInt (1) = 1 by decide)) (by decide) rfl (fun ls hl => ?_)
          refine lv_goto (tgt := 57) hx hb dL_areAlike_174 (by decide) ?_
          exact (ih).1 (x3 + 1) _ _ _ h hW hS (lv_sub hl [2, 3, 1, 0] rfl)
        · replace h := ite_f h c74
          refine lv_aload_n hx hb dL_areAlike_77 rfl (lv_at hl 0 rfl) ?_
          refine lv_iload_n hx hb dL_areAlike_78 rfl (lv_at hl 3 rfl) ?_
          refine lv_iload hx hb dL_areAlike_79 (lv_at hl 4 rfl) ?_
          obtain ⟨r81, e81, h⟩ := bind_s h
          refine k2_cI (va_runV (As := [.int x3, .int x4]) (rest := []) ⟨hx, hb, hml, hown, hts⟩ (kX3_rail l D cI cR q1 G K x3 x4 r81 e81) (cwV 2 hts gL_areAlike_X3_rail rfl rfl rfl (by decide +kernel) ⟨Nat.le_of_ble_eq_true rfl, Nat.le_of_ble_eq_true rfl⟩) (mPreV hK hW.1 0 rfl rfl) rfl rfl hl.1 rfl (lv_room (Nat.le_of_ble_eq_true rfl)) dL_areAlike_81 ⟨Nat.le_of_ble_eq_true rfl, Nat.le_of_ble_eq_true rfl⟩) hS hW (fun H locs hW hS => ?_)
          refine lv_istore (lv' := [(5, .int r81), (0, .ref (q1 0)), (1, .ref (q2 0)), (2, .int (1 : Int32)), (3, .int x3), (4, .int x4)]) hx hb dL_areAlike_84 hl (by decide) rfl (fun ls hl => ?_)
          refine lv_iload hx hb dL_areAlike_86 (lv_at hl 5 rfl) ?_
          refine lv_iconst (v := 3) hx hb dL_areAlike_88 (by decide) ?_
          refine lv_icmp_eq (tgt := 99) hx hb dL_areAlike_89 (by decide) (fun c89 => ?_) (fun c89 => ?_)
          · replace h := ite_t h c89
            refine lv_iload hx hb dL_areAlike_99 (lv_at hl 0 rfl) ?_
            refine lv_if_ge (tgt := 109) hx hb dL_areAlike_101 (by decide) (fun c101 => ?_) (fun c101 => ?_)
            · replace h := ite_t h c101
              refine lv_iconst (v := 3) hx hb dL_areAlike_109 (by decide) ?_
              refine lv_iload hx hb dL_areAlike_110 (lv_at hl 0 rfl) ?_
              refine lv_isub hx hb dL_areAlike_112 ?_
              refine lv_goto (tgt := 118) hx hb dL_areAlike_113 (by decide) ?_
              refine lv_istore (lv' := [(5, .int ((3 : Int32) - r81)), (0, .ref (q1 0)), (1, .ref (q2 0)), (2, .int (1 : Int32)), (3, .int x3), (4, .int x4)]) hx hb dL_areAlike_118 hl (by decide) rfl (fun ls hl => ?_)
              refine lv_iload_n hx hb dL_areAlike_120 rfl (lv_at hl 3 rfl) ?_
              refine lv_if_eq (tgt := 140) hx hb dL_areAlike_121 (by decide) (fun c => absurd c (by decide)) (fun _ => ?_)
              refine lv_iload hx hb dL_areAlike_124 (lv_at hl 0 rfl) ?_
              refine lv_aload_n hx hb dL_areAlike_126 rfl (lv_at hl 2 rfl) ?_
              refine lv_iload_n hx hb dL_areAlike_127 rfl (lv_at hl 4 rfl) ?_
              refine lv_iload hx hb dL_areAlike_128 (lv_at hl 5 rfl) ?_
              obtain ⟨r130, e130, h⟩ := bind_s h
              refine k2_cI (va_runV (As := [.int x3, .int x4]) (rest := [.int ((3 : Int32) - r81)]) ⟨hx, hb, hml, hown, hts⟩ (kX3_rail l D cI cR q2 P K x3 x4 r130 e130) (cwV 2 hts gL_areAlike_X3_rail rfl rfl rfl (by decide +kernel) ⟨Nat.le_of_ble_eq_true rfl, Nat.le_of_ble_eq_true rfl⟩) (mPreV hK hW.2 0 rfl rfl) rfl rfl hl.1 rfl (lv_room (Nat.le_of_ble_eq_true rfl)) dL_areAlike_130 ⟨Nat.le_of_ble_eq_true rfl, Nat.le_of_ble_eq_true rfl⟩) hS hW (fun H locs hW hS => ?_)
              obtain ⟨g133, h⟩ := grd_s h
              refine lv_icmp_ne (tgt := 140) hx hb dL_areAlike_133 (by decide) (fun c => absurd (of_decide_eq_true g133) c) (fun _ => ?_)
              refine lv_iconst (v := 1) hx hb dL_areAlike_136 (by decide) ?_
              refine lv_goto (tgt := 141) hx hb dL_areAlike_137 (by decide) ?_
              refine lv_istore_n (lv' := [(2, .int (1 : Int32)), (5, .int ((3 : Int32) - r81)), (0, .ref (q1 0)), (1, .ref (q2 0)), (3, .int x3), (4, .int x4)]) hx hb dL_areAlike_141 rfl hl (by decide) rfl (fun ls hl => ?_)
              refine lv_iinc (v := (x4 + 1)) (lv' := [(4, .int (x4 + 1)), (2, .int (1 : Int32)), (5, .int ((3 : Int32) - r81)), (0, .ref (q1 0)), (1, .ref (q2 0)), (3, .int x3)]) hx hb dL_areAlike_142 hl (k := 5) rfl (congrArg (fun z : Int32 => x4 + z) (show Int32.ofInt (1) = 1 by decide)) (by decide) rfl (fun ls hl => ?_)
              refine lv_goto (tgt := 70) hx hb dL_areAlike_145 (by decide) ?_
              exact (ih).2 x3 (x4 + 1) _ _ _ h hW hS (lv_sub hl [3, 4, 1, 5, 0] rfl)
            · replace h := ite_f h c101
              refine lv_iload hx hb dL_areAlike_104 (lv_at hl 0 rfl) ?_
              refine lv_goto (tgt := 118) hx hb dL_areAlike_106 (by decide) ?_
              refine lv_istore (lv' := [(5, .int r81), (0, .ref (q1 0)), (1, .ref (q2 0)), (2, .int (1 : Int32)), (3, .int x3), (4, .int x4)]) hx hb dL_areAlike_118 hl (by decide) rfl (fun ls hl => ?_)
              refine lv_iload_n hx hb dL_areAlike_120 rfl (lv_at hl 3 rfl) ?_
              refine lv_if_eq (tgt := 140) hx hb dL_areAlike_121 (by decide) (fun c => absurd c (by decide)) (fun _ => ?_)
              refine lv_iload hx hb dL_areAlike_124 (lv_at hl 0 rfl) ?_
              refine lv_aload_n hx hb dL_areAlike_126 rfl (lv_at hl 2 rfl) ?_
              refine lv_iload_n hx hb dL_areAlike_127 rfl (lv_at hl 4 rfl) ?_
              refine lv_iload hx hb dL_areAlike_128 (lv_at hl 5 rfl) ?_
              obtain ⟨r130, e130, h⟩ := bind_s h
              refine k2_cI (va_runV (As := [.int x3, .int x4]) (rest := [.int r81]) ⟨hx, hb, hml, hown, hts⟩ (kX3_rail l D cI cR q2 P K x3 x4 r130 e130) (cwV 2 hts gL_areAlike_X3_rail rfl rfl rfl (by decide +kernel) ⟨Nat.le_of_ble_eq_true rfl, Nat.le_of_ble_eq_true rfl⟩) (mPreV hK hW.2 0 rfl rfl) rfl rfl hl.1 rfl (lv_room (Nat.le_of_ble_eq_true rfl)) dL_areAlike_130 ⟨Nat.le_of_ble_eq_true rfl, Nat.le_of_ble_eq_true rfl⟩) hS hW (fun H locs hW hS => ?_)
              obtain ⟨g133, h⟩ := grd_s h
              refine lv_icmp_ne (tgt := 140) hx hb dL_areAlike_133 (by decide) (fun c => absurd (of_decide_eq_true g133) c) (fun _ => ?_)
              refine lv_iconst (v := 1) hx hb dL_areAlike_136 (by decide) ?_
              refine lv_goto (tgt := 141) hx hb dL_areAlike_137 (by decide) ?_
              refine lv_istore_n (lv' := [(2, .int (1 : Int32)), (5, .int r81), (0, .ref (q1 0)), (1, .ref (q2 0)), (3, .int x3), (4, .int x4)]) hx hb dL_areAlike_141 rfl hl (by decide) rfl (fun ls hl => ?_)
              refine lv_iinc (v := (x4 + 1)) (lv' := [(4, .int (x4 + 1)), (2, .int (1 : Int32)), (5, .int r81), (0, .ref (q1 0)), (1, .ref (q2 0)), (3, .int x3)]) hx hb dL_areAlike_142 hl (k := 5) rfl (congrArg (fun z : Int32 => x4 + z) (show Int32.ofInt (1) = 1 by decide)) (by decide) rfl (fun ls hl => ?_)
              refine lv_goto (tgt := 70) hx hb dL_areAlike_145 (by decide) ?_
              exact (ih).2 x3 (x4 + 1) _ _ _ h hW hS (lv_sub hl [3, 4, 1, 5, 0] rfl)
          · replace h := ite_f h c89
            refine lv_iload hx hb dL_areAlike_92 (lv_at hl 5 rfl) ?_
            refine lv_bipush (v := 8) hx hb dL_areAlike_94 (by decide) ?_
            refine lv_icmp_ne (tgt := 116) hx hb dL_areAlike_96 (by decide) (fun c96 => ?_) (fun c96 => ?_)
            · replace h := ite_f h c96
              refine lv_iload hx hb dL_areAlike_116 (lv_at hl 0 rfl) ?_
              refine lv_istore (lv' := [(5, .int r81), (0, .ref (q1 0)), (1, .ref (q2 0)), (2, .int (1 : Int32)), (3, .int x3), (4, .int x4)]) hx hb dL_areAlike_118 hl (by decide) rfl (fun ls hl => ?_)
              refine lv_iload_n hx hb dL_areAlike_120 rfl (lv_at hl 3 rfl) ?_
              refine lv_if_eq (tgt := 140) hx hb dL_areAlike_121 (by decide) (fun c => absurd c (by decide)) (fun _ => ?_)
              refine lv_iload hx hb dL_areAlike_124 (lv_at hl 0 rfl) ?_
              refine lv_aload_n hx hb dL_areAlike_126 rfl (lv_at hl 2 rfl) ?_
              refine lv_iload_n hx hb dL_areAlike_127 rfl (lv_at hl 4 rfl) ?_
              refine lv_iload hx hb dL_areAlike_128 (lv_at hl 5 rfl) ?_
              obtain ⟨r130, e130, h⟩ := bind_s h
              refine k2_cI (va_runV (As := [.int x3, .int x4]) (rest := [.int r81]) ⟨hx, hb, hml, hown, hts⟩ (kX3_rail l D cI cR q2 P K x3 x4 r130 e130) (cwV 2 hts gL_areAlike_X3_rail rfl rfl rfl (by decide +kernel) ⟨Nat.le_of_ble_eq_true rfl, Nat.le_of_ble_eq_true rfl⟩) (mPreV hK hW.2 0 rfl rfl) rfl rfl hl.1 rfl (lv_room (Nat.le_of_ble_eq_true rfl)) dL_areAlike_130 ⟨Nat.le_of_ble_eq_true rfl, Nat.le_of_ble_eq_true rfl⟩) hS hW (fun H locs hW hS => ?_)
              obtain ⟨g133, h⟩ := grd_s h
              refine lv_icmp_ne (tgt := 140) hx hb dL_areAlike_133 (by decide) (fun c => absurd (of_decide_eq_true g133) c) (fun _ => ?_)
              refine lv_iconst (v := 1) hx hb dL_areAlike_136 (by decide) ?_
              refine lv_goto (tgt := 141) hx hb dL_areAlike_137 (by decide) ?_
              refine lv_istore_n (lv' := [(2, .int (1 : Int32)), (5, .int r81), (0, .ref (q1 0)), (1, .ref (q2 0)), (3, .int x3), (4, .int x4)]) hx hb dL_areAlike_141 rfl hl (by decide) rfl (fun ls hl => ?_)
              refine lv_iinc (v := (x4 + 1)) (lv' := [(4, .int (x4 + 1)), (2, .int (1 : Int32)), (5, .int r81), (0, .ref (q1 0)), (1, .ref (q2 0)), (3, .int x3)]) hx hb dL_areAlike_142 hl (k := 5) rfl (congrArg (fun z : Int32 => x4 + z) (show Int32.ofInt (1) = 1 by decide)) (by decide) rfl (fun ls hl => ?_)
              refine lv_goto (tgt := 70) hx hb dL_areAlike_145 (by decide) ?_
              exact (ih).2 x3 (x4 + 1) _ _ _ h hW hS (lv_sub hl [3, 4, 1, 5, 0] rfl)
            · replace h := ite_t h c96
              refine lv_iload hx hb dL_areAlike_99 (lv_at hl 0 rfl) ?_
              refine lv_if_ge (tgt := 109) hx hb dL_areAlike_101 (by decide) (fun c101 => ?_) (fun c101 => ?_)
              · replace h := ite_t h c101
                refine lv_iconst (v := 3) hx hb dL_areAlike_109 (by decide) ?_
                refine lv_iload hx hb dL_areAlike_110 (lv_at hl 0 rfl) ?_
                refine lv_isub hx hb dL_areAlike_112 ?_
                refine lv_goto (tgt := 118) hx hb dL_areAlike_113 (by decide) ?_
                refine lv_istore (lv' := [(5, .int ((3 : Int32) - r81)), (0, .ref (q1 0)), (1, .ref (q2 0)), (2, .int (1 : Int32)), (3, .int x3), (4, .int x4)]) hx hb dL_areAlike_118 hl (by decide) rfl (fun ls hl => ?_)
                refine lv_iload_n hx hb dL_areAlike_120 rfl (lv_at hl 3 rfl) ?_
                refine lv_if_eq (tgt := 140) hx hb dL_areAlike_121 (by decide) (fun c => absurd c (by decide)) (fun _ => ?_)
                refine lv_iload hx hb dL_areAlike_124 (lv_at hl 0 rfl) ?_
                refine lv_aload_n hx hb dL_areAlike_126 rfl (lv_at hl 2 rfl) ?_
                refine lv_iload_n hx hb dL_areAlike_127 rfl (lv_at hl 4 rfl) ?_
                refine lv_iload hx hb dL_areAlike_128 (lv_at hl 5 rfl) ?_
                obtain ⟨r130, e130, h⟩ := bind_s h
                refine k2_cI (va_runV (As := [.int x3, .int x4]) (rest := [.int ((3 : Int32) - r81)]) ⟨hx, hb, hml, hown, hts⟩ (kX3_rail l D cI cR q2 P K x3 x4 r130 e130) (cwV 2 hts gL_areAlike_X3_rail rfl rfl rfl (by decide +kernel) ⟨Nat.le_of_ble_eq_true rfl, Nat.le_of_ble_eq_true rfl⟩) (mPreV hK hW.2 0 rfl rfl) rfl rfl hl.1 rfl (lv_room (Nat.le_of_ble_eq_true rfl)) dL_areAlike_130 ⟨Nat.le_of_ble_eq_true rfl, Nat.le_of_ble_eq_true rfl⟩) hS hW (fun H locs hW hS => ?_)
                obtain ⟨g133, h⟩ := grd_s h
                refine lv_icmp_ne (tgt := 140) hx hb dL_areAlike_133 (by decide) (fun c => absurd (of_decide_eq_true g133) c) (fun _ => ?_)
                refine lv_iconst (v := 1) hx hb dL_areAlike_136 (by decide) ?_
                refine lv_goto (tgt := 141) hx hb dL_areAlike_137 (by decide) ?_
                refine lv_istore_n (lv' := [(2, .int (1 : Int32)), (5, .int ((3 : Int32) - r81)), (0, .ref (q1 0)), (1, .ref (q2 0)), (3, .int x3), (4, .int x4)]) hx hb dL_areAlike_141 rfl hl (by decide) rfl (fun ls hl => ?_)
                refine lv_iinc (v := (x4 + 1)) (lv' := [(4, .int (x4 + 1)), (2, .int (1 : Int32)), (5, .int ((3 : Int32) - r81)), (0, .ref (q1 0)), (1, .ref (q2 0)), (3, .int x3)]) hx hb dL_areAlike_142 hl (k := 5) rfl (congrArg (fun z : Int32 => x4 + z) (show Int32.ofInt (1) = 1 by decide)) (by decide) rfl (fun ls hl => ?_)
                refine lv_goto (tgt := 70) hx hb dL_areAlike_145 (by decide) ?_
                exact (ih).2 x3 (x4 + 1) _ _ _ h hW hS (lv_sub hl [3, 4, 1, 5, 0] rfl)
              · replace h := ite_f h c101
                refine lv_iload hx hb dL_areAlike_104 (lv_at hl 0 rfl) ?_
                refine lv_goto (tgt := 118) hx hb dL_areAlike_106 (by decide) ?_
                refine lv_istore (lv' := [(5, .int r81), (0, .ref (q1 0)), (1, .ref (q2 0)), (2, .int (1 : Int32)), (3, .int x3), (4, .int x4)]) hx hb dL_areAlike_118 hl (by decide) rfl (fun ls hl => ?_)
                refine lv_iload_n hx hb dL_areAlike_120 rfl (lv_at hl 3 rfl) ?_
                refine lv_if_eq (tgt := 140) hx hb dL_areAlike_121 (by decide) (fun c => absurd c (by decide)) (fun _ => ?_)
                refine lv_iload hx hb dL_areAlike_124 (lv_at hl 0 rfl) ?_
                refine lv_aload_n hx hb dL_areAlike_126 rfl (lv_at hl 2 rfl) ?_
                refine lv_iload_n hx hb dL_areAlike_127 rfl (lv_at hl 4 rfl) ?_
                refine lv_iload hx hb dL_areAlike_128 (lv_at hl 5 rfl) ?_
                obtain ⟨r130, e130, h⟩ := bind_s h
                refine k2_cI (va_runV (As := [.int x3, .int x4]) (rest := [.int r81]) ⟨hx, hb, hml, hown, hts⟩ (kX3_rail l D cI cR q2 P K x3 x4 r130 e130) (cwV 2 hts gL_areAlike_X3_rail rfl rfl rfl (by decide +kernel) ⟨Nat.le_of_ble_eq_true rfl, Nat.le_of_ble_eq_true rfl⟩) (mPreV hK hW.2 0 rfl rfl) rfl rfl hl.1 rfl (lv_room (Nat.le_of_ble_eq_true rfl)) dL_areAlike_130 ⟨Nat.le_of_ble_eq_true rfl, Nat.le_of_ble_eq_true rfl⟩) hS hW (fun H locs hW hS => ?_)
                obtain ⟨g133, h⟩ := grd_s h
                refine lv_icmp_ne (tgt := 140) hx hb dL_areAlike_133 (by decide) (fun c => absurd (of_decide_eq_true g133) c) (fun _ => ?_)
                refine lv_iconst (v := 1) hx hb dL_areAlike_136 (by decide) ?_
                refine lv_goto (tgt := 141) hx hb dL_areAlike_137 (by decide) ?_
                refine lv_istore_n (lv' := [(2, .int (1 : Int32)), (5, .int r81), (0, .ref (q1 0)), (1, .ref (q2 0)), (3, .int x3), (4, .int x4)]) hx hb dL_areAlike_141 rfl hl (by decide) rfl (fun ls hl => ?_)
                refine lv_iinc (v := (x4 + 1)) (lv' := [(4, .int (x4 + 1)), (2, .int (1 : Int32)), (5, .int r81), (0, .ref (q1 0)), (1, .ref (q2 0)), (3, .int x3)]) hx hb dL_areAlike_142 hl (k := 5) rfl (congrArg (fun z : Int32 => x4 + z) (show Int32.ofInt (1) = 1 by decide)) (by decide) rfl (fun ls hl => ?_)
                refine lv_goto (tgt := 70) hx hb dL_areAlike_145 (by decide) ?_
                exact (ih).2 x3 (x4 + 1) _ _ _ h hW hS (lv_sub hl [3, 4, 1, 5, 0] rfl)
  have L20 : ∀ (n : Nat), ∀ (x3 : Int32) (H : Heap) (locs : List Loc) (ls : Array Slot), sL_areAlike_L20 K G P n x3 = some r → W2 D cI cR q1 q2 G P H → va_S (fun _ => False) s.heap H locs → lv_has ls 6 [(0, .ref (q1 0)), (1, .ref (q2 0)), (2, .int (1 : Int32)), (3, .int x3)] → W p l e (headSpec wsL_areAlike ({ frames := 6, cells := 0, slots := 0, locals := 135 } : Room)).room s m args below meth c H locs 0 0 (MQ below (mI (1 : Int32)) args s 0 0 (fun _ => False)) (F0 m 20 ls []) := by
    clear hW hS
    intro n
    induction n with
    | zero => exact fun _ _ _ _ h => absurd h (by simp [sL_areAlike_L20])
    | succ n ih =>
      intro x3 H locs ls h hW hS hl
      rw [sL_areAlike_L20] at h
      refine lv_iload_n hx hb dL_areAlike_20 rfl (lv_at hl 3 rfl) ?_
      refine lv_bipush (v := 10) hx hb dL_areAlike_21 (by decide) ?_
      refine lv_icmp_ge (tgt := 55) hx hb dL_areAlike_23 (by decide) (fun c23 => ?_) (fun c23 => ?_)
      · replace h := ite_t h c23
        refine lv_iconst (v := 0) hx hb dL_areAlike_55 (by decide) ?_
        refine lv_istore_n (lv' := [(3, .int (0 : Int32)), (0, .ref (q1 0)), (1, .ref (q2 0)), (2, .int (1 : Int32))]) hx hb dL_areAlike_56 rfl hl (by decide) rfl (fun ls hl => ?_)
        exact (L57 K).1 (0 : Int32) _ _ _ h hW hS (lv_sub hl [1, 2, 3, 0] rfl)
      · replace h := ite_f h c23
        refine lv_iload_n hx hb dL_areAlike_26 rfl (lv_at hl 2 rfl) ?_
        refine lv_if_eq (tgt := 47) hx hb dL_areAlike_27 (by decide) (fun c => absurd c (by decide)) (fun _ => ?_)
        refine lv_aload_n hx hb dL_areAlike_30 rfl (lv_at hl 0 rfl) ?_
        refine lv_iload_n hx hb dL_areAlike_31 rfl (lv_at hl 3 rfl) ?_
        obtain ⟨r32, e32, h⟩ := bind_s h
        refine k2_cI (va_runV (As := [.int x3]) (rest := []) ⟨hx, hb, hml, hown, hts⟩ (kX3_value l D cI cR q1 G K x3 r32 e32) (cwV 1 hts gL_areAlike_X3_value rfl rfl rfl (by decide +kernel) ⟨Nat.le_of_ble_eq_true rfl, Nat.le_of_ble_eq_true rfl⟩) (mPreV hK hW.1 0 rfl rfl) rfl rfl hl.1 rfl (lv_room (Nat.le_of_ble_eq_true rfl)) dL_areAlike_32 ⟨Nat.le_of_ble_eq_true rfl, Nat.le_of_ble_eq_true rfl⟩) hS hW (fun H locs hW hS => ?_)
        refine lv_aload_n hx hb dL_areAlike_35 rfl (lv_at hl 1 rfl) ?_
        refine lv_iload_n hx hb dL_areAlike_36 rfl (lv_at hl 3 rfl) ?_
        obtain ⟨r37, e37, h⟩ := bind_s h
        refine k2_cI (va_runV (As := [.int x3]) (rest := [.int r32]) ⟨hx, hb, hml, hown, hts⟩ (kX3_value l D cI cR q2 P K x3 r37 e37) (cwV 1 hts gL_areAlike_X3_value rfl rfl rfl (by decide +kernel) ⟨Nat.le_of_ble_eq_true rfl, Nat.le_of_ble_eq_true rfl⟩) (mPreV hK hW.2 0 rfl rfl) rfl rfl hl.1 rfl (lv_room (Nat.le_of_ble_eq_true rfl)) dL_areAlike_37 ⟨Nat.le_of_ble_eq_true rfl, Nat.le_of_ble_eq_true rfl⟩) hS hW (fun H locs hW hS => ?_)
        obtain ⟨g40, h⟩ := grd_s h
        refine lv_icmp_ne (tgt := 47) hx hb dL_areAlike_40 (by decide) (fun c => absurd (of_decide_eq_true g40) c) (fun _ => ?_)
        refine lv_iconst (v := 1) hx hb dL_areAlike_43 (by decide) ?_
        refine lv_goto (tgt := 48) hx hb dL_areAlike_44 (by decide) ?_
        refine lv_istore_n (lv' := [(2, .int (1 : Int32)), (0, .ref (q1 0)), (1, .ref (q2 0)), (3, .int x3)]) hx hb dL_areAlike_48 rfl hl (by decide) rfl (fun ls hl => ?_)
        refine lv_iinc (v := (x3 + 1)) (lv' := [(3, .int (x3 + 1)), (2, .int (1 : Int32)), (0, .ref (q1 0)), (1, .ref (q2 0))]) hx hb dL_areAlike_49 hl (k := 3) rfl (congrArg (fun z : Int32 => x3 + z) (show Int32.ofInt (1) = 1 by decide)) (by decide) rfl (fun ls hl => ?_)
        refine lv_goto (tgt := 20) hx hb dL_areAlike_52 (by decide) ?_
        exact ih (x3 + 1) _ _ _ h hW hS (lv_sub hl [2, 3, 1, 0] rfl)
  subst hargs
  have hl := lv_entry ([.ref (q1 0), .ref (q2 0)]) (n := 6) (Nat.le_of_ble_eq_true rfl)
  rw [lg_entry_eq]
  generalize (lg_sl ([.ref (q1 0), .ref (q2 0)]) ++ List.replicate (6 - (lg_sl ([.ref (q1 0), .ref (q2 0)])).length) Slot.unset).toArray = ls at hl ⊢
  have hl : lv_has ls 6 [(0, .ref (q1 0)), (1, .ref (q2 0))] := hl
  have h := hs
  unfold sL_areAlike at h
  refine lv_aload_n hx hb dL_areAlike_0 rfl (lv_at hl 0 rfl) ?_
  obtain ⟨r1, e1, h⟩ := bind_s h
  refine k2_cD (va_runV (As := []) (rest := []) ⟨hx, hb, hml, hown, hts⟩ (kX3_right l D cI cR q1 G K r1 e1) (cwV 0 hts gL_areAlike_X3_right rfl rfl rfl (by decide +kernel) ⟨Nat.le_of_ble_eq_true rfl, Nat.le_of_ble_eq_true rfl⟩) (mPreV hK hW.1 0 rfl rfl) rfl rfl hl.1 rfl (lv_room (Nat.le_of_ble_eq_true rfl)) dL_areAlike_1 ⟨Nat.le_of_ble_eq_true rfl, Nat.le_of_ble_eq_true rfl⟩) hS hW (fun H locs hW hS => ?_)
  refine lv_aload_n hx hb dL_areAlike_4 rfl (lv_at hl 1 rfl) ?_
  obtain ⟨r5, e5, h⟩ := bind_s h
  refine k2_cD (va_runV (As := []) (rest := [.double r1]) ⟨hx, hb, hml, hown, hts⟩ (kX3_right l D cI cR q2 P K r5 e5) (cwV 0 hts gL_areAlike_X3_right rfl rfl rfl (by decide +kernel) ⟨Nat.le_of_ble_eq_true rfl, Nat.le_of_ble_eq_true rfl⟩) (mPreV hK hW.2 0 rfl rfl) rfl rfl hl.1 rfl (lv_room (Nat.le_of_ble_eq_true rfl)) dL_areAlike_5 ⟨Nat.le_of_ble_eq_true rfl, Nat.le_of_ble_eq_true rfl⟩) hS hW (fun H locs hW hS => ?_)
  refine lv_dcmp hx hb dL_areAlike_8 ?_
  obtain ⟨g9, h⟩ := grd_s h
  refine lv_if_ne (tgt := 16) hx hb dL_areAlike_9 (by decide) (fun c => absurd (of_decide_eq_true g9) c) (fun _ => ?_)
  refine lv_iconst (v := 1) hx hb dL_areAlike_12 (by decide) ?_
  refine lv_goto (tgt := 17) hx hb dL_areAlike_13 (by decide) ?_
  refine lv_istore_n (lv' := [(2, .int (1 : Int32)), (0, .ref (q1 0)), (1, .ref (q2 0))]) hx hb dL_areAlike_17 rfl hl (by decide) rfl (fun ls hl => ?_)
  refine lv_iconst (v := 0) hx hb dL_areAlike_18 (by decide) ?_
  refine lv_istore_n (lv' := [(3, .int (0 : Int32)), (2, .int (1 : Int32)), (0, .ref (q1 0)), (1, .ref (q2 0))]) hx hb dL_areAlike_19 rfl hl (by decide) rfl (fun ls hl => ?_)
  exact L20 K (0 : Int32) _ _ _ h hW hS (lv_sub hl [2, 3, 1, 0] rfl)
