/-! the doubles that right answers: alike ones compare alike -/
theorem nan_dec {x : UInt64} (h : isNaN64 x = true) : FP.Core.decode FP.Core.b64 x.toNat = FP.Core.Datum.nan := by
  have h1 := isNaN64_iff.mp h
  have e0 : (0x7fffffffffffffff : Nat) = 2 ^ 63 - 1 := rfl
  rw [e0, Nat.and_two_pow_sub_one_eq_mod] at h1
  have e1 : FP.Core.fieldE FP.Core.b64 x.toNat = x.toNat / 4503599627370496 % 2048 := rfl
  have e2 : FP.Core.fieldT FP.Core.b64 x.toNat = x.toNat % 4503599627370496 := rfl
  have e3 : FP.Core.b64.exps - 1 = 2047 := by decide
  unfold FP.Core.decode
  rw [e1, e2, e3, if_pos (by omega), if_neg (by omega)]
theorem cmp_nan {x y : UInt64} (h : isNaN64 x = true) : FP.dcmp x y = none := by
  show FP.Core.order (FP.Core.decode FP.Core.b64 x.toNat) (FP.Core.decode FP.Core.b64 y.toNat) = none
  rw [nan_dec h]
  generalize FP.Core.decode FP.Core.b64 y.toNat = d
  cases d <;> rfl
theorem al_cmp {r r2 x : UInt64} (h1 : alike64 r x = true) (h2 : alike64 r2 x = true) (h : ¬ Op.cmpValue (FP.dcmp r r2) .l = 0) : ¬ Op.cmpValue (FP.dcmp r r) .l = 0 ∧ ¬ Op.cmpValue (FP.dcmp r2 r2) .l = 0 := by
  simp only [alike64, Bool.or_eq_true, decide_eq_true_eq, Bool.and_eq_true] at h1 h2
  by_cases hN : isNaN64 x = true
  · have a1 : isNaN64 r = true := by
      rcases h1 with e | ⟨z, -⟩
      · rw [e]; exact hN
      · exact z
    have a2 : isNaN64 r2 = true := by
      rcases h2 with e | ⟨z, -⟩
      · rw [e]; exact hN
      · exact z
    rw [cmp_nan a1, cmp_nan a2]
    exact ⟨by decide, by decide⟩
  · have e1 : r = x := h1.elim id (fun z => absurd z.2 hN)
    have e2 : r2 = x := h2.elim id (fun z => absurd z.2 hN)
    rw [e1, e2] at h
    rw [e1, e2]
    exact ⟨h, h⟩
section LWR
variable {p : Program} {l : Launch} {e : Env} {s : State} {m : MethodId} {args : Array Value} {below : List Frame} {meth : Method} {c : Code} {H : Heap} {locs : List Loc} {cells slots : Nat} {Q : State → Prop}
variable {ls : Array Slot} {D : va_G} {cI cR cL : ClassId} {q qm : Nat → Nat} {o b L : Nat} {xs : Nat → Int32} {G M : Nat → Nat → Int32} {v : Int64}
set_option maxHeartbeats 4000000 in
set_option maxRecDepth 100000 in
theorem lw_k_right {d0 : Drawn} (hd0 : s.drawn.sameBut d0 lw_cs) (F : lwF p l s m c args D cI cR cL b L xs) (J : lwJ q qm o s.heap.size) (hS : va_S (lwA s) s.heap H locs) (hW : lwW D cI cR cL q qm o G M v H) (R0 : Rel G M) {x : Int32} (hl : lv_has ls 9 (lwL b (q 0) (qm 0) o x)) (hc : cells + 4 ≤ room_1.cells) (hs : slots + 24 ≤ room_1.slots)
    (kk : ∀ d1 : Drawn, s.drawn.sameBut d1 lw_cs → lwK p l e (s.setDrawn d1) m args below meth c D cI cR cL q qm o b x (cells + 4) (slots + 24) Q) :
    W p l e room_1 (s.setDrawn d0) m args below meth c H locs cells slots Q (F0 m 1130 ls []) := by
  obtain ⟨r, M1, h1, h2, R1⟩ := op_right (K := 4000) (Nat.le_refl 4000) R0
  have hx := F.1
  have hb := F.2.1
  refine lv_aload_n hx hb dL_law_1130 rfl (lv_at hl 1 rfl) ?_
  refine va_calldD hd0 (va_runV_D (As := []) (rest := []) (F.at d0).fix (kX3_right l D cI cR q G 4000 r h1) (cwV 0 (F.at d0).2.2.2.2.1 gL_law_X3_right rfl rfl rfl (by decide +kernel) ⟨Nat.le_of_ble_eq_true rfl, Nat.le_of_ble_eq_true rfl⟩) (mPreV (mTyL_K (F.at d0).2.2.2.2.2.2.2.2.1) hW.1 0 rfl rfl) rfl rfl hl.1 rfl (lv_room (Nat.le_of_ble_eq_true rfl)) dL_law_1131 ⟨by omega, by omega⟩) hS (fun _ _ h => h.elim) (fun _ h => h.elim) (fun r1 u t H1 locs1 ht hvm hp hB hz hk hS1 d1 hd1 => ?_)
  have hW1 := hW.kept (fun z hz => hk z hz id)
  refine lv_dstore (lv' := (5, .double r1) :: lwL b (q 0) (qm 0) o x) hx hb dL_law_1134 hl (by decide) rfl (fun ls hl => ?_)
  refine lv_aload_n hx hb dL_law_1136 rfl (lv_at hl 3 rfl) ?_
  refine va_calldD hd1 (va_runV_D (As := []) (rest := []) (F.at d1).fix (kX4_right l D cI cR qm M 4000 J.2.1 (r, M1) h2) (cwV 0 (F.at d1).2.2.2.2.1 gL_law_X4_right rfl rfl rfl (by decide +kernel) ⟨Nat.le_of_ble_eq_true rfl, Nat.le_of_ble_eq_true rfl⟩) (mPreV (mTyL_K (F.at d1).2.2.2.2.2.2.2.2.1) hW1.2.1 0 rfl rfl) rfl rfl hl.1 rfl (lv_room (Nat.le_of_ble_eq_true rfl)) dL_law_1137 ⟨by omega, by omega⟩) hS1 (fun a _ h => J.2.2.2.2.2.2.1 a h) J.2.2.2.2.2.2.1 (fun r2 u2 t2 H2 locs2 ht2 hvm2 hp2 hB2 hz2 hk2 hS2 d2 hd2 => ?_)
  rw [ht2] at hB2
  have hW2 : lwW D cI cR cL q qm o G M1 v H2 := ⟨hW1.1.kept (fun a ha hlt => hk2 a hlt (J.2.2.1 a ha)), hB2, oW_kept hW1.2.2 (hk2 o (oW_lt hW1.2.2) J.2.2.2.2.1)⟩
  refine lv_dstore (lv' := (7, .double r2) :: (5, .double r1) :: lwL b (q 0) (qm 0) o x) hx hb dL_law_1140 hl (by decide) rfl (fun ls hl => ?_)
  have kE : W p l e room_1 (s.setDrawn d2) m args below meth c H2 locs2 cells slots Q (F0 m 1168 ls []) := lv_goto (tgt := 1311) hx hb dL_law_1168 (by decide) (W.widen (by omega) (by omega) (kk d2 hd2 _ _ _ _ _ _ R1 hW2 hS2 (lv_sub hl [2, 3, 4, 5, 6] rfl)))
  refine lv_dload hx hb dL_law_1142 (lv_at hl 1 rfl) ?_
  refine lv_dload hx hb dL_law_1144 (lv_at hl 0 rfl) ?_
  refine lv_dcmp hx hb dL_law_1146 ?_
  refine lv_if_eq (tgt := 1168) hx hb dL_law_1147 (by decide) (fun _ => kE) (fun h => ?_)
  obtain ⟨n1, n2⟩ := al_cmp hp hp2 h
  refine lv_dload hx hb dL_law_1150 (lv_at hl 1 rfl) ?_
  refine lv_dload hx hb dL_law_1152 (lv_at hl 1 rfl) ?_
  refine lv_dcmp hx hb dL_law_1154 ?_
  refine lv_if_eq (tgt := 1166) hx hb dL_law_1155 (by decide) (fun h => absurd h n1) (fun _ => ?_)
  refine lv_dload hx hb dL_law_1158 (lv_at hl 0 rfl) ?_
  refine lv_dload hx hb dL_law_1160 (lv_at hl 0 rfl) ?_
  refine lv_dcmp hx hb dL_law_1162 ?_
  exact lv_if_ne (tgt := 1168) hx hb dL_law_1163 (by decide) (fun _ => kE) (fun h => absurd h n2)
end LWR
