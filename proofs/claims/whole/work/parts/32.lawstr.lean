/-! THE TEXT OF KINDS out of the given words -/
set_option maxHeartbeats 4000000 in
set_option maxRecDepth 100000 in
theorem law_str {s : State} {b : Nat} (hts : ∀ w ∈ lw_tbl, w.before #[Value.ref b] s = true) (hgv : (Jvm.Cond.and given_1 narrow_1).before #[Value.ref b] s = true) : ∃ (aK aV : Nat), zSs aK aV (fun q : Nat => s.heap.size ≤ q) s s.heap := by
  have hs := flat_of_before _ hgv
  have hA : ∀ a : Nat, a < s.heap.size → ¬ (fun q : Nat => s.heap.size ≤ q) a := fun a h => Nat.not_le.mpr h
  obtain ⟨adK, adV, ⟨h1, -⟩, h2⟩ := vk_Sof (args := #[Value.ref b]) (s := s) (N := 1) (tm := fun _ => .string "VowDoves$Page" 33) (len := [5]) (byt := [[107, 119, 108, 98, 109]]) (A := fun q : Nat => s.heap.size ≤ q)
    (fun i hi => by match i, hi with | 0, _ => decide)
    (fun i hi => hs _ (by decide +kernel)) (fun i hi => hs _ (by decide +kernel)) (fun i hi => hs _ (by decide +kernel))
    (fun i hi => by match i, hi with | 0, _ => exact hs _ (by decide +kernel))
    (fun i hi j hj => by
      match i, hi with
      | 0, _ =>
        match j, hj with
        | 0, _ => exact hs _ (by decide +kernel)
        | 1, _ => exact hs _ (by decide +kernel)
        | 2, _ => exact hs _ (by decide +kernel)
        | 3, _ => exact hs _ (by decide +kernel)
        | 4, _ => exact hs _ (by decide +kernel)
        | k + 5, h => exact absurd h (by simp))
    (fun i j hi hj hij => absurd (show i = j by omega) hij) hA
  have h3 := h2 0 (by decide)
  obtain ⟨q1, q2, q3, q4⟩ := h1 0 (by decide)
  have h4 : (Term.string "VowDoves$Cote" 42).eval #[Value.ref b] s none [] s = some (.ref (adK 0)) := va_eqR (t := .string "VowDoves$Page" 33) (hs _ (by decide +kernel)) h3
  refine ⟨adK 0, adV 0, ⟨q1, q2, q3, q4, ?_⟩, vk_R.of (A := #[Value.ref b]) (hts (.stringRef RX4 33 "kwlbm") (by decide +kernel)) h3, vk_R.of (A := #[Value.ref b]) (hts (.stringRef RX2 42 "kwlbm") (by decide +kernel)) h4⟩
  exact va_Zof (args := #[Value.ref b]) (hts (.laysStatic "java/lang/String" "COMPACT_STRINGS" "Z") (by decide +kernel)) (hts (.initialized "java/lang/String") (by decide +kernel)) (va_eqi (hs _ (by decide +kernel))) hA
