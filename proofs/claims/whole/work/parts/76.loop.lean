/-! MACHINE: the law's loop -/
theorem sub4 {L n : Nat} (hL : L ≤ 2048) (hn : n ≤ 2048) : Int32.ofNat L - 4 < nI n ↔ L < n + 4 := by
  have e1 : (Int32.ofNat L).toInt = (L : Int) := nI_toInt (n := L) (by omega)
  have e3 : (4 : Int32).toInt = 4 := by decide
  have e2 : (Int32.ofNat L - 4).toInt = (L : Int) - 4 := by
    rw [Int32.toInt_sub, e1, e3]
    show Int.bmod ((L : Int) - 4) 4294967296 = _
    simp only [Int.bmod]
    split <;> omega
  rw [Int32.lt_iff_toInt_lt, e2, nI_toInt (by omega)]
  omega
theorem sw_of {X : Int32} (h : ¬ (X.toInt < 0 ∨ 22 < X.toInt)) : ∃ j, j < 23 ∧ X = nI j := by
  have e3 : (0 : Int32).toInt = 0 := by decide
  obtain ⟨j, h1, h2⟩ := nI_of (x := X) (fun z => h (Or.inl (by rw [Int32.lt_iff_toInt_lt, e3] at z; exact z)))
  refine ⟨j, ?_, h2⟩
  rw [h2, nI_toInt h1] at h
  omega
set_option maxHeartbeats 16000000 in
set_option maxRecDepth 100000 in
theorem law_loop {p : Program} {l : Launch} {e : Env} {s : State} {m : MethodId} {below : List Frame} {meth : Method} {c : Code} {D : va_G} {cI cR cL : ClassId} {q qm : Nat → Nat} {o b L : Nat} {xs : Nat → Int32}
    (F : lwF p l s m c #[Value.ref b] D cI cR cL b L xs) (hL : L ≤ 2048) (J : lwJ q qm o s.heap.size) (hr : meth.sig.returnType = ret) (hlocks : meth.locks = false) :
    ∀ (k i : Nat), L < 4 * (i + k) → 4 * i ≤ L → ∀ (d0 : Drawn), s.drawn.sameBut d0 lw_cs → ∀ (G M : Nat → Nat → Int32) (v : Int64) (H : Heap) (locs : List Loc) (ls : Array Slot), Rel G M → lwW D cI cR cL q qm o G M v H → va_S (lwA s) s.heap H locs → lv_has ls 9 (lwL b (q 0) (qm 0) o (nI (4 * i))) →
      W p l e room_1 (s.setDrawn d0) m #[Value.ref b] below meth c H locs (73 + 4 * i) (1435 + 24 * i) (lw_Z below #[Value.ref b] s) (F0 m 23 ls []) := by
  intro k
  induction k with
  | zero =>
    intro i h1 h2
    omega
  | succ k ih =>
    intro i hk hi d0 hd0 G M v H locs ls R0 hW hS hl
    have hrc : room_1.cells = 603776 := rfl
    have hrs : room_1.slots = 7284777 := rfl
    obtain ⟨hx, hb, hml, hown, hts, hfl, hX, hbl, -⟩ := id (F.at d0)
    have hbA : ¬ lwA s b := Nat.not_le.mpr hbl
    refine lv_iload hx hb dL_law_23 (lv_at hl 4 rfl) ?_
    refine lv_aload_n hx hb dL_law_25 rfl (lv_at hl 0 rfl) ?_
    refine va_slen hx hb hX hbl hbA hS dL_law_26 ?_
    refine lv_iconst (v := 4) hx hb dL_law_27 (by decide) ?_
    refine lv_isub hx hb dL_law_28 ?_
    refine lv_icmp_gt (tgt := 1317) hx hb dL_law_29 (by decide) (fun h => ?_) (fun h => ?_)
    · refine lv_iconst (v := 1) hx hb dL_law_1317 (by decide) ?_
      refine va_forget (fun z hz => hS.2.2 z hz) ?_
      refine W.widen (k := 603776) (n := 7284777) (by omega) (by omega) ?_
      exact lw_ret hd0 hx hb hr hlocks dL_law_1318
    · have h4 : 4 * i + 4 ≤ L := by
        have h5 : ¬ L < 4 * i + 4 := fun z => h ((sub4 hL (by omega)).mpr z)
        omega
      have kk : ∀ d1 : Drawn, s.drawn.sameBut d1 lw_cs → lwK p l e (s.setDrawn d1) m #[Value.ref b] below meth c D cI cR cL q qm o b (nI (4 * i)) (73 + 4 * i + 4) (1435 + 24 * i + 24) (lw_Z below #[Value.ref b] s) := by
        intro d1 hd1 G1 M1 v1 H1 locs1 ls1 R1 hW1 hS1 hl1
        refine lv_iinc (v := nI (4 * (i + 1))) (lv' := [(4, .int (nI (4 * (i + 1)))), (0, .ref b), (1, .ref (q 0)), (2, .ref (qm 0)), (3, .ref o)]) hx hb dL_law_1311 hl1 (k := 4) rfl ((nI_add (4 * i) 4).trans (congrArg nI (by omega))) (by decide) rfl (fun ls hl => ?_)
        refine lv_goto (tgt := 23) hx hb dL_law_1314 (by decide) ?_
        refine W.widen (k := 73 + 4 * (i + 1)) (n := 1435 + 24 * (i + 1)) (by omega) (by omega) ?_
        exact ih (i + 1) (by omega) (by omega) d1 hd1 G1 M1 v1 H1 locs1 ls R1 hW1 hS1 (lv_sub hl [1, 2, 3, 4, 0] rfl)
      refine lv_aload_n hx hb dL_law_32 rfl (lv_at hl 0 rfl) ?_
      refine lv_iload hx hb dL_law_33 (lv_at hl 4 rfl) ?_
      refine va_sld hx hb hX hbl hbA hS (vp_in_nI (by omega) (by omega)) dL_law_35 ?_
      refine lv_bipush (v := 31) hx hb dL_law_36 (by decide) ?_
      refine lv_iand hx hb dL_law_38 ?_
      generalize xs (nI (4 * i)).toNatClampNeg &&& 31 = X
      by_cases hz : X.toInt < 0 ∨ 22 < X.toInt
      · refine lv_tableOut (tgt := 1311) hx hb dL_law_39 hz (by decide) ?_
        exact W.widen (by omega) (by omega) (kk d0 hd0 _ _ _ _ _ _ R0 hW hS hl)
      obtain ⟨j, hj, rfl⟩ := sw_of hz
      clear hz
      have hj2 : j = 0 ∨ j = 1 ∨ j = 2 ∨ j = 3 ∨ j = 4 ∨ j = 5 ∨ j = 6 ∨ j = 7 ∨ j = 8 ∨ j = 9 ∨ j = 10 ∨ j = 11 ∨ j = 12 ∨ j = 13 ∨ j = 14 ∨ j = 15 ∨ j = 16 ∨ j = 17 ∨ j = 18 ∨ j = 19 ∨ j = 20 ∨ j = 21 ∨ j = 22 := by omega
      rcases hj2 with rfl | rfl | rfl | rfl | rfl | rfl | rfl | rfl | rfl | rfl | rfl | rfl | rfl | rfl | rfl | rfl | rfl | rfl | rfl | rfl | rfl | rfl | rfl
      · refine lv_tableIn (off := 105) (tgt := 144) hx hb dL_law_39 (by decide) (by decide) (by decide +kernel) (by decide) ?_
        exact lw_k_addKind (F.at d0) J hS hW R0 h4 hL hl (by omega) (by omega) (kk d0 hd0)
      · refine lv_tableIn (off := 185) (tgt := 224) hx hb dL_law_39 (by decide) (by decide) (by decide +kernel) (by decide) ?_
        exact lw_k_setHome (F.at d0) J hS hW R0 h4 hL hl (by omega) (by omega) (kk d0 hd0)
      · refine lv_tableIn (off := 253) (tgt := 292) hx hb dL_law_39 (by decide) (by decide) (by decide +kernel) (by decide) ?_
        exact lw_k_setGap (F.at d0) J hS hW R0 h4 hL hl (by omega) (by omega) (kk d0 hd0)
      · refine lv_tableIn (off := 321) (tgt := 360) hx hb dL_law_39 (by decide) (by decide) (by decide +kernel) (by decide) ?_
        exact lw_k_feed (F.at d0) J hS hW R0 h4 hL hl (by omega) (by omega) (kk d0 hd0)
      · refine lv_tableIn (off := 389) (tgt := 428) hx hb dL_law_39 (by decide) (by decide) (by decide +kernel) (by decide) ?_
        exact lw_k_feedSome (F.at d0) J hS hW R0 h4 hL hl (by omega) (by omega) (kk d0 hd0)
      · refine lv_tableIn (off := 457) (tgt := 496) hx hb dL_law_39 (by decide) (by decide) (by decide +kernel) (by decide) ?_
        exact lw_k_free (F.at d0) J hS hW R0 h4 hL hl (by omega) (by omega) (kk d0 hd0)
      · refine lv_tableIn (off := 513) (tgt := 552) hx hb dL_law_39 (by decide) (by decide) (by decide +kernel) (by decide) ?_
        exact lw_k_takeBag (F.at d0) J hS hW R0 h4 hL hl (by omega) (by omega) (kk d0 hd0)
      · refine lv_tableIn (off := 569) (tgt := 608) hx hb dL_law_39 (by decide) (by decide) (by decide +kernel) (by decide) ?_
        exact lw_k_takeRejects (F.at d0) J hS hW R0 h4 hL hl (by omega) (by omega) (kk d0 hd0)
      · refine lv_tableIn (off := 582) (tgt := 621) hx hb dL_law_39 (by decide) (by decide) (by decide +kernel) (by decide) ?_
        exact lw_k_kind (F.at d0) J hS hW R0 h4 hL hl (by omega) (by omega) (kk d0 hd0)
      · refine lv_tableIn (off := 650) (tgt := 689) hx hb dL_law_39 (by decide) (by decide) (by decide +kernel) (by decide) ?_
        exact lw_k_rail (F.at d0) J hS hW R0 h4 hL hl (by omega) (by omega) (kk d0 hd0)
      · refine lv_tableIn (off := 718) (tgt := 757) hx hb dL_law_39 (by decide) (by decide) (by decide +kernel) (by decide) ?_
        exact lw_k_count (F.at d0) J hS hW R0 h4 hL hl (by omega) (by omega) (kk d0 hd0)
      · refine lv_tableIn (off := 786) (tgt := 825) hx hb dL_law_39 (by decide) (by decide) (by decide +kernel) (by decide) ?_
        exact lw_k_value (F.at d0) J hS hW R0 h4 hL hl (by omega) (by omega) (kk d0 hd0)
      · refine lv_tableIn (off := 842) (tgt := 881) hx hb dL_law_39 (by decide) (by decide) (by decide +kernel) (by decide) ?_
        exact lw_k_where (F.at d0) J hS hW R0 h4 hL hl (by omega) (by omega) (kk d0 hd0)
      · refine lv_tableIn (off := 910) (tgt := 949) hx hb dL_law_39 (by decide) (by decide) (by decide +kernel) (by decide) ?_
        exact lw_k_mostWear (F.at d0) J hS hW R0 h4 hL hl (by omega) (by omega) (kk d0 hd0)
      · refine lv_tableIn (off := 966) (tgt := 1005) hx hb dL_law_39 (by decide) (by decide) (by decide +kernel) (by decide) ?_
        exact lw_k_bestGap (F.at d0) J hS hW R0 h4 hL hl (by omega) (by omega) (kk d0 hd0)
      · refine lv_tableIn (off := 1022) (tgt := 1061) hx hb dL_law_39 (by decide) (by decide) (by decide +kernel) (by decide) ?_
        exact lw_k_supply (F.at d0) J hS hW R0 h4 hL hl (by omega) (by omega) (kk d0 hd0)
      · refine lv_tableIn (off := 1078) (tgt := 1117) hx hb dL_law_39 (by decide) (by decide) (by decide +kernel) (by decide) ?_
        exact lw_k_worstKind (F.at d0) J hS hW R0 h4 hL hl (by omega) (by omega) (kk d0 hd0)
      · refine lv_tableIn (off := 1091) (tgt := 1130) hx hb dL_law_39 (by decide) (by decide) (by decide +kernel) (by decide) ?_
        exact lw_k_right hd0 F J hS hW R0 hl (by omega) (by omega) kk
      · refine lv_tableIn (off := 1132) (tgt := 1171) hx hb dL_law_39 (by decide) (by decide) (by decide +kernel) (by decide) ?_
        exact lw_k_append (F.at d0) J hS hW R0 h4 hL hl (by omega) (by omega) (kk d0 hd0)
      · refine lv_tableIn (off := 1188) (tgt := 1227) hx hb dL_law_39 (by decide) (by decide) (by decide +kernel) (by decide) ?_
        exact lw_k_clearText (F.at d0) J hS hW R0 h4 hL hl (by omega) (by omega) (kk d0 hd0)
      · refine lv_tableIn (off := 1201) (tgt := 1240) hx hb dL_law_39 (by decide) (by decide) (by decide +kernel) (by decide) ?_
        exact lw_k_parse (F.at d0) J hS hW R0 h4 hL hl (by omega) (by omega) (kk d0 hd0)
      · refine lv_tableIn (off := 1214) (tgt := 1253) hx hb dL_law_39 (by decide) (by decide) (by decide +kernel) (by decide) ?_
        exact lw_k_undo (F.at d0) J hS hW R0 h4 hL hl (by omega) (by omega) (kk d0 hd0)
      · refine lv_tableIn (off := 1258) (tgt := 1297) hx hb dL_law_39 (by decide) (by decide) (by decide +kernel) (by decide) ?_
        exact lw_k_digest (F.at d0) J hS hW R0 h4 hL hl (by omega) (by omega) (kk d0 hd0)
