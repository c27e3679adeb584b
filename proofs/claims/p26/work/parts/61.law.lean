/-! MACHINE: the law, from its entry: what the tables know; two sorters are made; the loop; the end -/
theorem st_arr {b : Nat} {s : State} {ty : FieldType} (h : (Cond.arrayClass ty).before #[Value.ref b] s = true) : ∃ cA, ArrOfT s cA ty ∧ s.vm.findClass ("[" ++ ty.toString) = some cA := by
  obtain ⟨cA, kA, comp, h1, h2, h3⟩ := Cond.arrayClass_spec h
  exact ⟨cA, fun n z => ⟨fun k h => (by cases h), kA, h2, comp, h3⟩, h1⟩
theorem st_K {b : Nat} {s : State} (hts : ∀ w ∈ lw_tbl, w.before #[Value.ref b] s = true) : ∃ (D : va_G) (cI cR : ClassId), va_K D vwCl (mTy cI cR) s := by
  obtain ⟨c0, i0, k0⟩ := u_known (C := RX0) (T := TX0) (N := 5) (n := 5) hts (by decide +kernel) (hts (.instantiable RX0 5) (by decide +kernel))
  obtain ⟨c1, i1, k1⟩ := u_known (C := RX1) (T := TX1) (N := 3) (n := 3) hts (by decide +kernel) (hts (.instantiable RX1 3) (by decide +kernel))
  obtain ⟨c2, i2, k2⟩ := u_known (C := RX2) (T := TX2) (N := 13) (n := 13) hts (by decide +kernel) (hts (.instantiable RX2 13) (by decide +kernel))
  obtain ⟨c3, i3, k3⟩ := u_known (C := RX3) (T := TX3) (N := 3) (n := 3) hts (by decide +kernel) (hts (.instantiable RX3 3) (by decide +kernel))
  obtain ⟨cI, a1, a2⟩ := st_arr (hts (.arrayClass .int) (by decide +kernel))
  obtain ⟨comp, cR, kR, r1, r2, r3, r4, r5⟩ := Cond.arrayOver_spec (hts (.arrayOver (.object "CoinRails$State")) (by decide +kernel))
  refine ⟨(fun k => if k = 0 then c0 else if k = 1 then c1 else if k = 2 then c2 else c3, fun k => if k = 0 then i0 else if k = 1 then i1 else if k = 2 then i2 else i3), cI, cR, fun k q hq => ?_, fun k q hq => ?_⟩
  · match k, hq with
    | 0, hq => cases hq; exact k0
    | 1, hq => cases hq; exact k1
    | 2, hq => cases hq; exact k2
    | 3, hq => cases hq; exact k3
    | k + 4, hq => simp [vwCl] at hq
  · match k, hq with
    | 0, hq => cases hq; exact ⟨a1, a2⟩
    | 1, hq => cases hq; exact ⟨fun n z => ⟨fun k h => (by cases h), kR, r3, comp, r4⟩, kR, comp, r3, r4, r1, r5⟩
    | k + 2, hq => simp at hq
theorem st_J2 {cI cR : ClassId} {A : Nat → Prop} {q1 q2 : Nat → Nat} {G P : Nat → Nat → Int32} (hD : va_D A (mwL cI cR q1 tmC G ++ mwL cI cR q2 tmC P)) : J2 q1 q2 ∧ ∀ a, M2 q1 q2 a → A a := by
  have lC := mw_len cI cR q1 tmC G
  have eC : tmC.length = 67 := rfl
  have p1 : ∀ i, i < tmC.length → ∃ y, (mwL cI cR q1 tmC G ++ mwL cI cR q2 tmC P)[i]? = some (q1 i, y) := fun i hi => by
    refine ⟨mwE cI cR q1 (G i) tmC[i], ?_⟩
    rw [List.getElem?_append_left (by rw [lC]; exact hi)]
    exact mwL_get (List.getElem?_eq_getElem hi)
  have p2 : ∀ i, i < tmC.length → ∃ y, (mwL cI cR q1 tmC G ++ mwL cI cR q2 tmC P)[67 + i]? = some (q2 i, y) := fun i hi => by
    refine ⟨mwE cI cR q2 (P i) tmC[i], ?_⟩
    rw [List.getElem?_append_right (by rw [lC]; omega), lC, eC, show 67 + i - 67 = i by omega]
    exact mwL_get (List.getElem?_eq_getElem hi)
  obtain ⟨h1, h2⟩ := hD
  refine ⟨⟨fun i j hi hj e => ?_, fun i j hi hj e => ?_, fun a ⟨i, hi, ei⟩ ⟨j, hj, ej⟩ => ?_⟩, fun a ha => ?_⟩
  · obtain ⟨y, hy⟩ := p1 i hi
    obtain ⟨z, hz⟩ := p1 j hj
    exact h1 _ _ _ _ hy hz e
  · obtain ⟨y, hy⟩ := p2 i hi
    obtain ⟨z, hz⟩ := p2 j hj
    have := h1 _ _ _ _ hy hz e
    omega
  · obtain ⟨y, hy⟩ := p1 i hi
    obtain ⟨z, hz⟩ := p2 j hj
    have := h1 _ _ _ _ hy hz (ei.symm.trans ej)
    omega
  · rcases ha with ⟨i, hi, ei⟩ | ⟨i, hi, ei⟩
    · obtain ⟨y, hy⟩ := p1 i hi
      rw [ei]
      exact h2 _ _ hy
    · obtain ⟨y, hy⟩ := p2 i hi
      rw [ei]
      exact h2 _ _ hy
theorem P_l {D : va_G} {w1 w2 : va_W} {H : Heap} (h : va_P D vwCl (w1 ++ w2) H) : va_P D vwCl w1 H := fun k p hk => h k p (by rw [List.getElem?_append_left (List.getElem?_eq_some_iff.mp hk).1]; exact hk)
theorem P_r {D : va_G} {w1 w2 : va_W} {H : Heap} (h : va_P D vwCl (w1 ++ w2) H) : va_P D vwCl w2 H := fun k p hk => h (w1.length + k) p (by rw [List.getElem?_append_right (by omega), show w1.length + k - w1.length = k by omega]; exact hk)
abbrev lwA (s : State) : Nat → Prop := fun a => s.heap.size ≤ a
section LW
variable {p : Program} {l : Launch} {e : Env} {s : State} {m : MethodId} {below : List Frame} {meth : Method} {c : Code} {D : va_G} {cI cR : ClassId} {q1 q2 : Nat → Nat} {b L : Nat} {xs : Nat → Int32}
set_option maxHeartbeats 16000000 in
set_option maxRecDepth 100000 in
/-- the law's end -/
theorem law_tail (hx : p.tables.exec = Jvm.exec) (hb : c.code = code) (hml : c.maxLocals = 6) (hown : (s.setDrawn s.drawn).vm.findClass RL = some m.cls) (htl : ∀ w ∈ wsL_law, w.before #[Value.ref b] (s.setDrawn s.drawn) = true) (hK : va_K D vwCl (mTy cI cR) (s.setDrawn s.drawn)) (hJ : J2 q1 q2) (hA : ∀ a, M2 q1 q2 a → lwA s a) (hr : meth.sig.returnType = ret) (hlocks : meth.locks = false)
    {G P : Nat → Nat → Int32} {H : Heap} {locs : List Loc} {ls : Array Slot} {x : Int32} (hI : Iv G P) (hW : W2 D cI cR q1 q2 G P H) (hS : va_S (lwA s) s.heap H locs) (hl : lv_has ls 6 [(4, .int x), (3, .int 1), (2, .ref (q2 0)), (1, .ref (q1 0)), (0, .ref b)]) :
    W p l e room_1 (s.setDrawn s.drawn) m #[Value.ref b] below meth c H locs 134 1480 (lw_Z below #[Value.ref b] s) (F0 m 78 ls []) := by
  obtain ⟨a, bb, j, G1, j2, G2, t1, t2, t3, t4, t5, t6, t7, t8, t9, t10⟩ := p_tail (K := 4000) (Nat.le_refl 4000) hI
  have hfix : CallFix p m c code 6 (s.setDrawn s.drawn) #[Value.ref b] wsL_law RL := ⟨hx, hb, hml, hown, htl⟩
  have rc : (134 : Nat) + 0 ≤ room_1.cells := Nat.le_of_ble_eq_true rfl
  have rs : (1480 : Nat) + 0 ≤ room_1.slots := Nat.le_of_ble_eq_true rfl
  refine lv_aload_n hx hb dL_law_78 rfl (lv_at hl 3 rfl) ?_
  refine lv_iconst (v := 1) hx hb dL_law_79 (by decide) ?_
  refine k2_cI (va_runV (As := [.int 1]) (rest := []) hfix (kX3_value l D cI cR q1 G 4000 1 a t1) (cwV 1 htl gL_law_X3_value rfl rfl rfl (by decide +kernel) ⟨Nat.le_of_ble_eq_true rfl, Nat.le_of_ble_eq_true rfl⟩) (mPreV hK hW.1 0 rfl rfl) rfl rfl hl.1 rfl (lv_room (Nat.le_of_ble_eq_true rfl)) dL_law_80 ⟨rc, rs⟩) hS hW (fun H locs hW hS => ?_)
  refine lv_istore (lv' := [(4, .int a), (3, .int 1), (2, .ref (q2 0)), (1, .ref (q1 0)), (0, .ref b)]) hx hb dL_law_83 hl (by decide) rfl (fun ls hl => ?_)
  refine lv_aload_n hx hb dL_law_85 rfl (lv_at hl 3 rfl) ?_
  refine lv_iconst (v := 2) hx hb dL_law_86 (by decide) ?_
  refine k2_cI (va_runV (As := [.int 2]) (rest := []) hfix (kX3_value l D cI cR q1 G 4000 2 bb t2) (cwV 1 htl gL_law_X3_value rfl rfl rfl (by decide +kernel) ⟨Nat.le_of_ble_eq_true rfl, Nat.le_of_ble_eq_true rfl⟩) (mPreV hK hW.1 0 rfl rfl) rfl rfl hl.1 rfl (lv_room (Nat.le_of_ble_eq_true rfl)) dL_law_87 ⟨rc, rs⟩) hS hW (fun H locs hW hS => ?_)
  refine lv_istore (lv' := [(5, .int bb), (4, .int a), (3, .int 1), (2, .ref (q2 0)), (1, .ref (q1 0)), (0, .ref b)]) hx hb dL_law_90 hl (by decide) rfl (fun ls hl => ?_)
  refine lv_iload_n hx hb dL_law_92 rfl (lv_at hl 2 rfl) ?_
  refine lv_if_eq (tgt := 159) hx hb dL_law_93 (by decide) (fun c => absurd c (by decide)) (fun _ => ?_)
  refine lv_aload_n hx hb dL_law_96 rfl (lv_at hl 4 rfl) ?_
  refine lv_bipush (v := 50) hx hb dL_law_97 (by decide) ?_
  refine lv_sipush (v := 12345) hx hb dL_law_99 (by decide) ?_
  refine k2_cW1 hJ (va_runV (As := [.int 50, .int 12345]) (rest := []) hfix (kX3_feedSome l D cI cR q1 G 4000 50 12345 hJ.1 _ t3) (cwV 2 htl gL_law_X3_feedSome rfl rfl rfl (by decide +kernel) ⟨Nat.le_of_ble_eq_true rfl, Nat.le_of_ble_eq_true rfl⟩) (mPreV hK hW.1 0 rfl rfl) rfl rfl hl.1 rfl (lv_room (Nat.le_of_ble_eq_true rfl)) dL_law_102 ⟨rc, rs⟩) hS hA hW (fun H locs hW hS => ?_)
  refine lv_if_lt (tgt := 159) hx hb dL_law_105 (by decide) (fun c => absurd c (nI_pos (by omega))) (fun _ => ?_)
  refine lv_aload_n hx hb dL_law_108 rfl (lv_at hl 4 rfl) ?_
  refine lv_iconst (v := 1) hx hb dL_law_109 (by decide) ?_
  refine k2_cI (va_runV (As := [.int 1]) (rest := []) hfix (kX3_value l D cI cR q1 G1 4000 1 _ t5) (cwV 1 htl gL_law_X3_value rfl rfl rfl (by decide +kernel) ⟨Nat.le_of_ble_eq_true rfl, Nat.le_of_ble_eq_true rfl⟩) (mPreV hK hW.1 0 rfl rfl) rfl rfl hl.1 rfl (lv_room (Nat.le_of_ble_eq_true rfl)) dL_law_110 ⟨rc, rs⟩) hS hW (fun H locs hW hS => ?_)
  refine lv_iload hx hb dL_law_113 (lv_at hl 1 rfl) ?_
  refine lv_bipush (v := 50) hx hb dL_law_115 (by decide) ?_
  refine lv_iadd hx hb dL_law_117 ?_
  refine lv_icmp_ne (tgt := 159) hx hb dL_law_118 (by decide) (fun c => absurd rfl c) (fun _ => ?_)
  refine lv_aload_n hx hb dL_law_121 rfl (lv_at hl 4 rfl) ?_
  refine k2_cI (va_runS (As := [.ref (q1 0)]) (rest := []) hfix (kL_isSound l D cI cR q1 4000 G1 () t6) (va_cwS 1 htl gL_law_L_isSound rfl rfl rfl (by decide +kernel) ⟨Nat.le_of_ble_eq_true rfl, Nat.le_of_ble_eq_true rfl⟩) (mPreS hK hW.1) rfl rfl hl.1 rfl (lv_room (Nat.le_of_ble_eq_true rfl)) dL_law_122 ⟨rc, rs⟩) hS hW (fun H locs hW hS => ?_)
  refine lv_if_eq (tgt := 159) hx hb dL_law_125 (by decide) (fun c => absurd c (by decide)) (fun _ => ?_)
  refine lv_aload_n hx hb dL_law_128 rfl (lv_at hl 4 rfl) ?_
  refine k2_cW1 hJ (va_runV (As := []) (rest := []) hfix (kX3_undo l D cI cR q1 G1 4000 hJ.1 _ t7) (cwV 0 htl gL_law_X3_undo rfl rfl rfl (by decide +kernel) ⟨Nat.le_of_ble_eq_true rfl, Nat.le_of_ble_eq_true rfl⟩) (mPreV hK hW.1 0 rfl rfl) rfl rfl hl.1 rfl (lv_room (Nat.le_of_ble_eq_true rfl)) dL_law_129 ⟨rc, rs⟩) hS hA hW (fun H locs hW hS => ?_)
  refine lv_if_lt (tgt := 159) hx hb dL_law_132 (by decide) (fun c => absurd c (nI_pos (by omega))) (fun _ => ?_)
  refine lv_aload_n hx hb dL_law_135 rfl (lv_at hl 4 rfl) ?_
  refine lv_iconst (v := 1) hx hb dL_law_136 (by decide) ?_
  refine k2_cI (va_runV (As := [.int 1]) (rest := []) hfix (kX3_value l D cI cR q1 G2 4000 1 a t9) (cwV 1 htl gL_law_X3_value rfl rfl rfl (by decide +kernel) ⟨Nat.le_of_ble_eq_true rfl, Nat.le_of_ble_eq_true rfl⟩) (mPreV hK hW.1 0 rfl rfl) rfl rfl hl.1 rfl (lv_room (Nat.le_of_ble_eq_true rfl)) dL_law_137 ⟨rc, rs⟩) hS hW (fun H locs hW hS => ?_)
  refine lv_iload hx hb dL_law_140 (lv_at hl 1 rfl) ?_
  refine lv_icmp_ne (tgt := 159) hx hb dL_law_142 (by decide) (fun c => absurd rfl c) (fun _ => ?_)
  refine lv_aload_n hx hb dL_law_145 rfl (lv_at hl 4 rfl) ?_
  refine lv_iconst (v := 2) hx hb dL_law_146 (by decide) ?_
  refine k2_cI (va_runV (As := [.int 2]) (rest := []) hfix (kX3_value l D cI cR q1 G2 4000 2 bb t10) (cwV 1 htl gL_law_X3_value rfl rfl rfl (by decide +kernel) ⟨Nat.le_of_ble_eq_true rfl, Nat.le_of_ble_eq_true rfl⟩) (mPreV hK hW.1 0 rfl rfl) rfl rfl hl.1 rfl (lv_room (Nat.le_of_ble_eq_true rfl)) dL_law_147 ⟨rc, rs⟩) hS hW (fun H locs hW hS => ?_)
  refine lv_iload hx hb dL_law_150 (lv_at hl 0 rfl) ?_
  refine lv_icmp_ne (tgt := 159) hx hb dL_law_152 (by decide) (fun c => absurd rfl c) (fun _ => ?_)
  refine lv_iconst (v := 1) hx hb dL_law_155 (by decide) ?_
  refine lv_goto (tgt := 160) hx hb dL_law_156 (by decide) ?_
  refine lv_istore_n (lv' := [(3, .int 1), (5, .int bb), (4, .int a), (2, .ref (q2 0)), (1, .ref (q1 0)), (0, .ref b)]) hx hb dL_law_160 rfl hl (by decide) rfl (fun ls hl => ?_)
  refine lv_iload_n hx hb dL_law_161 rfl (lv_at hl 0 rfl) ?_
  refine va_forget (fun z hz => hS.2.2 z hz) ?_
  refine W.widen (k := 600130) (n := 7301080) (Nat.le_of_ble_eq_true rfl) (Nat.le_of_ble_eq_true rfl) ?_
  exact lw_ret (Drawn.sameBut.refl s.drawn lw_cs) hx hb hr hlocks dL_law_162
set_option maxHeartbeats 16000000 in
set_option maxRecDepth 100000 in
/-- the law's loop -/
theorem law_loop (hx : p.tables.exec = Jvm.exec) (hb : c.code = code) (hml : c.maxLocals = 6) (hown : (s.setDrawn s.drawn).vm.findClass RL = some m.cls) (htl : ∀ w ∈ wsL_law, w.before #[Value.ref b] (s.setDrawn s.drawn) = true) (hK : va_K D vwCl (mTy cI cR) (s.setDrawn s.drawn)) (hJ : J2 q1 q2) (hA : ∀ a, M2 q1 q2 a → lwA s a) (hr : meth.sig.returnType = ret) (hlocks : meth.locks = false) (hL : L ≤ 260) (hX : va_X b L xs (s.setDrawn s.drawn) (s.setDrawn s.drawn).heap) (hbl : b < (s.setDrawn s.drawn).heap.size) :
    ∀ (k i : Nat), i + k = 44 → ∀ (G P : Nat → Nat → Int32) (H : Heap) (locs : List Loc) (ls : Array Slot), Iv G P → W2 D cI cR q1 q2 G P H → va_S (lwA s) s.heap H locs → lv_has ls 6 [(4, .int (nI i)), (3, .int 1), (2, .ref (q2 0)), (1, .ref (q1 0)), (0, .ref b)] →
      W p l e room_1 (s.setDrawn s.drawn) m #[Value.ref b] below meth c H locs 134 1480 (lw_Z below #[Value.ref b] s) (F0 m 26 ls []) := by
  have hfix : CallFix p m c code 6 (s.setDrawn s.drawn) #[Value.ref b] wsL_law RL := ⟨hx, hb, hml, hown, htl⟩
  have hbA : ¬ lwA s b := Nat.not_le.mpr hbl
  have rc : (134 : Nat) + 0 ≤ room_1.cells := Nat.le_of_ble_eq_true rfl
  have rs : (1480 : Nat) + 0 ≤ room_1.slots := Nat.le_of_ble_eq_true rfl
  intro k
  induction k with
  | zero =>
    intro i hi G P H locs ls hI hW hS hl
    obtain rfl : i = 44 := by omega
    refine lv_iload hx hb dL_law_26 (lv_at hl 0 rfl) ?_
    refine lv_bipush (v := 44) hx hb dL_law_28 (by decide) ?_
    refine lv_icmp_ge (tgt := 78) hx hb dL_law_30 (by decide) (fun _ => ?_) (fun c => absurd (by decide) c)
    exact law_tail hx hb hml hown htl hK hJ hA hr hlocks hI hW hS hl
  | succ k ih =>
    intro i hi G P H locs ls hI hW hS hl
    obtain ⟨v, hv⟩ := p_cell 4000 hL xs (j := i) (by omega)
    obtain ⟨G', P', e1, e2, e3, hI'⟩ := p_turn (K := 4000) (Nat.le_refl 4000) hI v
    refine lv_iload hx hb dL_law_26 (lv_at hl 0 rfl) ?_
    refine lv_bipush (v := 44) hx hb dL_law_28 (by decide) ?_
    refine lv_icmp_ge (tgt := 78) hx hb dL_law_30 (by decide) (fun c => absurd c (nleI (a := 44) (by omega) (by decide))) (fun _ => ?_)
    refine lv_iload_n hx hb dL_law_33 rfl (lv_at hl 1 rfl) ?_
    refine lv_if_eq (tgt := 78) hx hb dL_law_34 (by decide) (fun c => absurd c (by decide)) (fun _ => ?_)
    refine lv_aload_n hx hb dL_law_37 rfl (lv_at hl 3 rfl) ?_
    refine lv_aload_n hx hb dL_law_38 rfl (lv_at hl 2 rfl) ?_
    refine lv_aload_n hx hb dL_law_39 rfl (lv_at hl 4 rfl) ?_
    refine lv_iload hx hb dL_law_40 (lv_at hl 0 rfl) ?_
    refine k2_cI (va_runS (As := [.ref b, .int (nI i)]) (rest := [.ref (q2 0), .ref (q1 0)]) hfix (kL_cell l 4000 L xs b (nI i) v hv) (va_cwS 2 htl gL_law_L_cell rfl rfl rfl (by decide +kernel) ⟨Nat.le_of_ble_eq_true rfl, Nat.le_of_ble_eq_true rfl⟩) (cPreS hX hbl hbA hS) rfl rfl hl.1 rfl (lv_room (Nat.le_of_ble_eq_true rfl)) dL_law_42 ⟨rc, rs⟩) hS hW (fun H locs hW hS => ?_)
    refine k2_cW (va_runS (As := [.ref (q1 0), .ref (q2 0), .int v]) (rest := []) hfix (kL_isStep l D cI cR q1 q2 hJ 4000 G P v (G', P') e1) (va_cwS 3 htl gL_law_L_isStep rfl rfl rfl (by decide +kernel) ⟨Nat.le_of_ble_eq_true rfl, Nat.le_of_ble_eq_true rfl⟩) (lPreS hK hW) rfl rfl hl.1 rfl (lv_room (Nat.le_of_ble_eq_true rfl)) dL_law_45 ⟨rc, rs⟩) hS hA (fun H locs hW hS => ?_)
    refine lv_if_eq (tgt := 70) hx hb dL_law_48 (by decide) (fun c => absurd c (by decide)) (fun _ => ?_)
    refine lv_aload_n hx hb dL_law_51 rfl (lv_at hl 3 rfl) ?_
    refine lv_aload_n hx hb dL_law_52 rfl (lv_at hl 2 rfl) ?_
    refine k2_cI (va_runS (As := [.ref (q1 0), .ref (q2 0)]) (rest := []) hfix (kL_areAlike l D cI cR q1 q2 hJ 4000 G' P' () e2) (va_cwS 2 htl gL_law_L_areAlike rfl rfl rfl (by decide +kernel) ⟨Nat.le_of_ble_eq_true rfl, Nat.le_of_ble_eq_true rfl⟩) (lPreS hK hW) rfl rfl hl.1 rfl (lv_room (Nat.le_of_ble_eq_true rfl)) dL_law_53 ⟨rc, rs⟩) hS hW (fun H locs hW hS => ?_)
    refine lv_if_eq (tgt := 70) hx hb dL_law_56 (by decide) (fun c => absurd c (by decide)) (fun _ => ?_)
    refine lv_aload_n hx hb dL_law_59 rfl (lv_at hl 3 rfl) ?_
    refine k2_cI (va_runS (As := [.ref (q1 0)]) (rest := []) hfix (kL_isSound l D cI cR q1 4000 G' () e3) (va_cwS 1 htl gL_law_L_isSound rfl rfl rfl (by decide +kernel) ⟨Nat.le_of_ble_eq_true rfl, Nat.le_of_ble_eq_true rfl⟩) (mPreS hK hW.1) rfl rfl hl.1 rfl (lv_room (Nat.le_of_ble_eq_true rfl)) dL_law_60 ⟨rc, rs⟩) hS hW (fun H locs hW hS => ?_)
    refine lv_if_eq (tgt := 70) hx hb dL_law_63 (by decide) (fun c => absurd c (by decide)) (fun _ => ?_)
    refine lv_iconst (v := 1) hx hb dL_law_66 (by decide) ?_
    refine lv_goto (tgt := 71) hx hb dL_law_67 (by decide) ?_
    refine lv_istore_n (lv' := [(3, .int 1), (4, .int (nI i)), (2, .ref (q2 0)), (1, .ref (q1 0)), (0, .ref b)]) hx hb dL_law_71 rfl hl (by decide) rfl (fun ls hl => ?_)
    refine lv_iinc (v := nI (i + 1)) (lv' := [(4, .int (nI (i + 1))), (3, .int 1), (2, .ref (q2 0)), (1, .ref (q1 0)), (0, .ref b)]) hx hb dL_law_72 hl (k := 1) rfl (by rw [show Int32.ofInt (1) = 1 by decide]; exact nI1 i) (by decide) rfl (fun ls hl => ?_)
    refine lv_goto (tgt := 26) hx hb dL_law_75 (by decide) ?_
    exact ih (i + 1) (by omega) G' P' H locs ls hI' hW hS hl
end LW
