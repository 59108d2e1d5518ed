/-! THE LAW'S ENVIRONMENT out of the given words -/
set_option maxHeartbeats 4000000 in
set_option maxRecDepth 100000 in
theorem law_env {s : State} {b : Nat} (hts : ∀ w ∈ lw_tbl, w.before #[Value.ref b] s = true) : ∃ (D : va_G) (cI cZ cA : ClassId), zE D cI cZ cA s ∧ va_AOA .int s := by
  obtain ⟨c0, i0, k0⟩ := u_known (C := RX0) (T := TX0) (N := 9) (n := 9) hts inX0 (hts (.instantiable RX0 9) (by decide +kernel))
  obtain ⟨c1, i1, k1⟩ := u_known (C := RX1) (T := TX1) (N := 3) (n := 3) hts inX1 (hts (.instantiable RX1 3) (by decide +kernel))
  obtain ⟨c2, i2, k2⟩ := u_known (C := RX2) (T := TX2) (N := 5) (n := 5) hts inX2 (hts (.instantiable RX2 5) (by decide +kernel))
  obtain ⟨c3, i3, k3⟩ := u_known (C := RX3) (T := TX3) (N := 6) (n := 6) hts inX3 (hts (.instantiable RX3 6) (by decide +kernel))
  obtain ⟨c4, i4, k4⟩ := u_known (C := RX4) (T := TX4) (N := 3) (n := 3) hts inX4 (hts (.instantiable RX4 3) (by decide +kernel))
  obtain ⟨c5, i5, k5⟩ := u_known (C := RX5) (T := TX5) (N := 8) (n := 8) hts inX5 (hts (.instantiable RX5 8) (by decide +kernel))
  obtain ⟨c6, i6, k6⟩ := u_known (C := RX6) (T := TX6) (N := 22) (n := 22) hts inX6 (hts (.instantiable RX6 22) (by decide +kernel))
  obtain ⟨cI, kI, pI, fI, hI, dI⟩ := Cond.arrayClass_spec (type := .int) (hts (.arrayClass .int) (by decide +kernel))
  obtain ⟨cZ, kZ, pZ, fZ, hZ, dZ⟩ := Cond.arrayClass_spec (type := .boolean) (hts (.arrayClass .boolean) (by decide +kernel))
  have hO : (Cond.arrayOver (.array .int)).before #[Value.ref b] s = true := hts _ (by decide +kernel)
  obtain ⟨pA, cA, kA, fP, hA, dA, fA⟩ := Cond.arrayOver_specA (t := .int) hO
  refine ⟨(fun k => if k = 0 then c0 else if k = 1 then c1 else if k = 2 then c2 else if k = 3 then c3 else if k = 4 then c4 else if k = 5 then c5 else c6, fun k => if k = 0 then i0 else if k = 1 then i1 else if k = 2 then i2 else if k = 3 then i3 else if k = 4 then i4 else if k = 5 then i5 else i6), cI, cZ, cA, ⟨⟨?_, ?_⟩, ?_⟩, va_AOA.of hO⟩
  · intro k q hq
    match k, hq with
    | 0, hq => cases hq; exact k0
    | 1, hq => cases hq; exact k1
    | 2, hq => cases hq; exact k2
    | 3, hq => cases hq; exact k3
    | 4, hq => cases hq; exact k4
    | 5, hq => cases hq; exact k5
    | 6, hq => cases hq; exact k6
    | k + 7, hq => simp [vwCl] at hq
  · intro k q hq
    match k, hq with
    | 0, hq => cases hq; exact ⟨fun n z => ⟨fun q hq => (by cases hq), kI, hI, pI, dI⟩, fI⟩
    | 1, hq => cases hq; exact ⟨fun n z => ⟨fun q hq => (by cases hq), kZ, hZ, pZ, dZ⟩, fZ⟩
    | 2, hq => cases hq; exact ⟨fun n z => ⟨fun q hq => (by cases hq), kA, hA, pA, dA⟩, fA⟩
    | k + 3, hq => simp [zty] at hq
  · exact ⟨va_Nw.of rfl (hts (.methodLinkNest RX5 9 yX4_init RX5) (by decide +kernel)), va_Nw.of rfl (hts (.methodLinkNest RX5 18 yX2_init RX5) (by decide +kernel)), va_Nw.of rfl (hts (.methodLinkNest RX5 35 yX3_init RX5) (by decide +kernel)), va_Nw.of rfl (hts (.methodLinkNest RX5 42 yX1_init RX5) (by decide +kernel)), va_Nw.of rfl (hts (.methodLinkNest RX2 57 yX5_yearsKeptBy RX5) (by decide +kernel)), va_Nw.of rfl (hts (.methodLinkNest RX2 61 yX5_isOfKind RX5) (by decide +kernel)), va_Nw.of rfl (hts (.methodLinkNest RX1 47 yX5_sum RX5) (by decide +kernel))⟩
