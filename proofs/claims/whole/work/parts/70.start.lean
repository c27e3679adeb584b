/-! THE START: what the Statement gives of it -/
theorem st_str : ∀ x ∈ thS, Cond.stringRef RX3 x.1 x.2 ∈ lw_tbl := by decide +kernel
theorem st_cas : ∀ E ∈ thE, Cond.castable E E ∈ lw_tbl := by decide +kernel
theorem st_dec : ∀ Y ∈ thD, Cond.declares (Bundle.initS Y) ∈ lw_tbl := by decide +kernel
theorem st_thP {b : Nat} {s : State} (hts : ∀ w ∈ lw_tbl, w.before #[Value.ref b] s = true) (hg : (Jvm.Cond.and given_1 narrow_1).before #[Value.ref b] s = true) : thP (fun a => s.heap.size ≤ a) s := by
  have hn := flat_of_before _ hg
  refine ⟨vx_Zqof (args := #[Value.ref b]) (hts (.laysStatic Bundle.tN "UNASSIGNED_STACK" Bundle.steD) (by decide +kernel)) (hts (.initialized Bundle.tN) (by decide +kernel)) (hn (.isRef (.static Bundle.tN "UNASSIGNED_STACK" Bundle.steD)) (by decide +kernel)) (fun a h z => by omega), vx_Zqof (args := #[Value.ref b]) (hts (.laysStatic Bundle.tN "SUPPRESSED_SENTINEL" Bundle.listD) (by decide +kernel)) (hts (.initialized Bundle.tN) (by decide +kernel)) (hn (.isRef (.static Bundle.tN "SUPPRESSED_SENTINEL" Bundle.listD)) (by decide +kernel)) (fun a h z => by omega), fun x hx => ?_, fun E hE => va_Nw.of rfl (hts _ (st_cas E hE)), fun Y hY => va_Nw.of rfl (hts _ (st_dec Y hY))⟩
  have h9 : (Cond.exactly (.string RX3 x.1) "java/lang/String").before #[Value.ref b] s = true := by
    have h8 : x = (40, "no room for another kind") ∨ x = (68, "the rail is stuck") ∨ x = (81, "there are no kinds") ∨ x = (86, "the rail is not stuck") ∨ x = (135, "the text is full") ∨ x = (158, "there is no saved state") ∨ x = (177, "no such kind") ∨ x = (180, "no such rail") ∨ x = (184, "an argument is out of range") := by
      simpa [thS] using hx
    rcases h8 with rfl | rfl | rfl | rfl | rfl | rfl | rfl | rfl | rfl
    · exact hn (.exactly (.string RX3 40) "java/lang/String") (by decide +kernel)
    · exact hn (.exactly (.string RX3 68) "java/lang/String") (by decide +kernel)
    · exact hn (.exactly (.string RX3 81) "java/lang/String") (by decide +kernel)
    · exact hn (.exactly (.string RX3 86) "java/lang/String") (by decide +kernel)
    · exact hn (.exactly (.string RX3 135) "java/lang/String") (by decide +kernel)
    · exact hn (.exactly (.string RX3 158) "java/lang/String") (by decide +kernel)
    · exact hn (.exactly (.string RX3 177) "java/lang/String") (by decide +kernel)
    · exact hn (.exactly (.string RX3 180) "java/lang/String") (by decide +kernel)
    · exact hn (.exactly (.string RX3 184) "java/lang/String") (by decide +kernel)
  obtain ⟨a, c, cA, kA, q1, -⟩ := Cond.exactly_spec h9
  exact ⟨a, vk_R.of (hts _ (st_str x hx)) q1⟩
theorem st_nc {b : Nat} {s : State} (hg : (Jvm.Cond.and given_1 narrow_1).before #[Value.ref b] s = true) : ncP s := by
  have hn := flat_of_before _ hg
  intro x hx
  have h8 : x = ("java/lang/IllegalArgumentException", "java/lang/IllegalStateException") ∨ x = ("java/lang/IllegalArgumentException", "java/lang/IndexOutOfBoundsException") ∨ x = ("java/lang/IllegalStateException", "java/lang/IllegalArgumentException") ∨ x = ("java/lang/IllegalStateException", "java/lang/IndexOutOfBoundsException") ∨ x = ("java/lang/IndexOutOfBoundsException", "java/lang/IllegalArgumentException") ∨ x = ("java/lang/IndexOutOfBoundsException", "java/lang/IllegalStateException") := by
    simpa [ncL] using hx
  rcases h8 with rfl | rfl | rfl | rfl | rfl | rfl
  · exact va_Nc.of (hn (.not (.castable "java/lang/IllegalArgumentException" "java/lang/IllegalStateException")) (by decide +kernel))
  · exact va_Nc.of (hn (.not (.castable "java/lang/IllegalArgumentException" "java/lang/IndexOutOfBoundsException")) (by decide +kernel))
  · exact va_Nc.of (hn (.not (.castable "java/lang/IllegalStateException" "java/lang/IllegalArgumentException")) (by decide +kernel))
  · exact va_Nc.of (hn (.not (.castable "java/lang/IllegalStateException" "java/lang/IndexOutOfBoundsException")) (by decide +kernel))
  · exact va_Nc.of (hn (.not (.castable "java/lang/IndexOutOfBoundsException" "java/lang/IllegalArgumentException")) (by decide +kernel))
  · exact va_Nc.of (hn (.not (.castable "java/lang/IndexOutOfBoundsException" "java/lang/IllegalStateException")) (by decide +kernel))
