/-! THE LAW'S LOOP -/
theorem loop_lt : ∀ L, L < 4 → ∀ i, i < 4 → nI L - 4 < nI i := by decide +kernel
theorem loop_le {i L : Nat} (hL : L ≤ 256) (hi : i ≤ L) (h : ¬ nI L - 4 < nI i) : i + 4 ≤ L := by
  rcases Nat.lt_or_ge L 4 with q | q
  · exact absurd (loop_lt L q i (by omega)) h
  · have e : nI L - 4 = nI (L - 4) := pk_sub (b := 4) q
    rw [e] at h
    have := Nat.le_of_not_lt (fun z => h ((nI_ltI (by omega) (by omega)).mpr z))
    omega
set_option maxHeartbeats 4000000 in
set_option maxRecDepth 100000 in
theorem law_loop {p : Program} {l : Launch} {e : Env} {s : State} {m : MethodId} {below : List Frame} {meth : Method} {c : Code} {A : Nat → Prop} {D : va_G} {cI cZ cA : ClassId} {b L : Nat} {xs : Nat → Int32} {aK aV : Nat} (hx : p.tables.exec = Jvm.exec) (hb : c.code = cL_law) (hml : c.maxLocals = 4) (hown : s.vm.findClass RL = some m.cls) (hts : ∀ w ∈ wsL_law, w.before #[Value.ref b] s = true) (hX : va_X b L xs s s.heap) (hbl : b < s.heap.size) (hbA : ¬ A b) (hA : ∀ q : Nat, s.heap.size ≤ q → A q) (hE : zE D cI cZ cA s) (hST : zSs aK aV A s s.heap) (hr : meth.sig.returnType = ret) (hL : L ≤ 256) (hlocks : meth.locks = false) (hA2 : ∀ q : Nat, A q → s.heap.size ≤ q) {vd mo : Nat} :
    ∀ (N n i : Nat), i = 4 * n → i ≤ L → L + 1 ≤ i + N → ∀ (H : Heap) (locs : List Loc) (ls : Array Slot), LawS D cI cZ cA A vd mo n H → va_S A s.heap H locs → lv_has ls 4 [(3, .int (nI i)), (2, .ref mo), (1, .ref vd), (0, .ref b)] → W p l e room_1 s m #[Value.ref b] below meth c H locs 47 416 (lw_Z below #[Value.ref b] s) (F0 m 18 ls []) := by
  intro N
  induction N with
  | zero => intro n i h1 h2 h3; exact absurd h3 (by omega)
  | succ N ih =>
    intro n i e4 hiL hN H locs ls hLS hS hl
    refine lv_iload_n hx hb dL_law_18 rfl (lv_at hl 0 rfl) ?_
    refine lv_aload_n hx hb dL_law_19 rfl (lv_at hl 3 rfl) ?_
    refine va_slen hx hb hX hbl hbA hS dL_law_20 ?_
    refine lv_iconst (v := 4) hx hb dL_law_21 (by decide) ?_
    refine lv_isub hx hb dL_law_22 ?_
    refine lv_icmp_gt (tgt := 659) hx hb dL_law_23 (by decide) (fun c_23 => ?_) (fun c_23 => ?_)
    · refine lv_iconst (v := 1) hx hb dL_law_659 (by decide) ?_
      refine va_forget (fun q hq => hA2 _ (hS.2.2 q hq)) ?_
      refine W.widen (k := 600000) (n := 7302250) (Nat.le_of_ble_eq_true rfl) (Nat.le_of_ble_eq_true rfl) ?_
      exact lw_ret hx hb hr hlocks dL_law_660
    · have hi : i + 4 ≤ L := loop_le hL hiL c_23
      have hn : n + 1 ≤ 256 := by omega
      have kk : ∀ (H : Heap) (locs : List Loc) (ls : Array Slot), LawS D cI cZ cA A vd mo (n + 1) H → va_S A s.heap H locs → lv_has ls 4 [(3, .int (nI i)), (2, .ref mo), (1, .ref vd), (0, .ref b)] → W p l e room_1 s m #[Value.ref b] below meth c H locs 47 416 (lw_Z below #[Value.ref b] s) (F0 m 653 ls []) := by
        intro H locs ls h1 h2 h3
        refine lv_iinc (v := nI (i + 4)) (lv' := [(3, .int (nI (i + 4))), (2, .ref mo), (1, .ref vd), (0, .ref b)]) hx hb dL_law_653 h3 (k := 0) rfl (nI_add i 4) (by decide) rfl (fun ls hl => ?_)
        refine lv_goto (tgt := 18) hx hb dL_law_656 (by decide) ?_
        exact ih (n + 1) (i + 4) (by omega) hi (by omega) H locs ls h1 h2 hl
      refine lv_aload_n hx hb dL_law_26 rfl (lv_at hl 3 rfl) ?_
      refine lv_iload_n hx hb dL_law_27 rfl (lv_at hl 0 rfl) ?_
      refine va_sld hx hb hX hbl hbA hS (vp_in_nI (by omega) (by omega)) dL_law_28 ?_
      refine lv_bipush (v := 31) hx hb dL_law_29 (by decide) ?_
      refine lv_iand hx hb dL_law_31 ?_
      refine lv_topi (fun x _ => ?_)
      refine LawS_use hLS (fun pg apl co akd afa ahd bk alt abd aeg abr ask ash ast mt awo r0 r1 r2 r3 r4 ali arm atr abe kb alt2 abd2 aeg2 abr2 ask2 ash2 ast2 rn aceg apg arw ans asi aro abo akr akn aks asv P K Hn sn sn2 ks vb yr im tr mos yr2 cbk ea sd kt ky csd ha pgf kd fa hd lt bd eg br sk sh st m0 m1 m2 m3 m4 lim rm tri bes lt2 bd2 eg2 br2 sk2 sh2 st2 ceg rw ns si ro bo kr kn kss sv hv hl5 hP hD => ?_)
      by_cases c_0 : x = 0
      · refine lv_tableIn (tgt := 132) hx hb dL_law_32 (by rw [c_0]; decide) (by rw [c_0]; decide) (by rw [c_0]; rfl) (by decide) ?_
        exact law_letter hx hb hml hown hts hX hbl hbA hA hE hST hL hn hi hv hl5 hP hD hS hl kk
      by_cases c_1 : x = 1
      · refine lv_tableIn (tgt := 155) hx hb dL_law_32 (by rw [c_1]; decide) (by rw [c_1]; decide) (by rw [c_1]; rfl) (by decide) ?_
        exact law_blank hx hb hml hown hts hX hbl hbA hA hE hST hL hn hi hv hl5 hP hD hS hl kk
      by_cases c_2 : x = 2
      · refine lv_tableIn (tgt := 168) hx hb dL_law_32 (by rw [c_2]; decide) (by rw [c_2]; decide) (by rw [c_2]; rfl) (by decide) ?_
        exact law_fault hx hb hml hown hts hX hbl hbA hA hE hST hL hn hi hv hl5 hP hD hS hl kk
      by_cases c_3 : x = 3
      · refine lv_tableIn (tgt := 181) hx hb dL_law_32 (by rw [c_3]; decide) (by rw [c_3]; decide) (by rw [c_3]; rfl) (by decide) ?_
        exact law_tower hx hb hml hown hts hX hbl hbA hA hE hST hL hn hi hv hl5 hP hD hS hl kk
      by_cases c_4 : x = 4
      · refine lv_tableIn (tgt := 194) hx hb dL_law_32 (by rw [c_4]; decide) (by rw [c_4]; decide) (by rw [c_4]; rfl) (by decide) ?_
        exact law_keeper hx hb hml hown hts hX hbl hbA hA hE hST hL hn hi hv hl5 hP hD hS hl kk
      by_cases c_5 : x = 5
      · refine lv_tableIn (tgt := 227) hx hb dL_law_32 (by rw [c_5]; decide) (by rw [c_5]; decide) (by rw [c_5]; rfl) (by decide) ?_
        exact law_as hx hb hml hown hts hX hbl hbA hA hE hST hL hn hi hv hl5 hP hD hS hl kk
      by_cases c_6 : x = 6
      · refine lv_tableIn (tgt := 260) hx hb dL_law_32 (by rw [c_6]; decide) (by rw [c_6]; decide) (by rw [c_6]; rfl) (by decide) ?_
        exact law_keeps hx hb hml hown hts hX hbl hbA hA hE hST hL hn hi hv hl5 hP hD hS hl kk
      by_cases c_7 : x = 7
      · refine lv_tableIn (tgt := 293) hx hb dL_law_32 (by rw [c_7]; decide) (by rw [c_7]; decide) (by rw [c_7]; rfl) (by decide) ?_
        exact law_hole hx hb hml hown hts hX hbl hbA hA hE hST hL hn hi hv hl5 hP hD hS hl kk
      by_cases c_8 : x = 8
      · refine lv_tableIn (tgt := 326) hx hb dL_law_32 (by rw [c_8]; decide) (by rw [c_8]; decide) (by rw [c_8]; rfl) (by decide) ?_
        exact law_let hx hb hml hown hts hX hbl hbA hA hE hST hL hn hi hv hl5 hP hD hS hl kk
      by_cases c_9 : x = 9
      · refine lv_tableIn (tgt := 359) hx hb dL_law_32 (by rw [c_9]; decide) (by rw [c_9]; decide) (by rw [c_9]; rfl) (by decide) ?_
        exact law_leave hx hb hml hown hts hX hbl hbA hA hE hST hL hn hi hv hl5 hP hD hS hl kk
      by_cases c_10 : x = 10
      · refine lv_tableIn (tgt := 382) hx hb dL_law_32 (by rw [c_10]; decide) (by rw [c_10]; decide) (by rw [c_10]; rfl) (by decide) ?_
        exact law_year hx hb hml hown hts hX hbl hbA hA hE hST hL hn hi hv hl5 hP hD hS hl kk
      by_cases c_11 : x = 11
      · refine lv_tableIn (tgt := 405) hx hb dL_law_32 (by rw [c_11]; decide) (by rw [c_11]; decide) (by rw [c_11]; rfl) (by decide) ?_
        exact law_forgive hx hb hml hown hts hX hbl hbA hA hE hST hL hn hi hv hl5 hP hD hS hl kk
      by_cases c_12 : x = 12
      · refine lv_tableIn (tgt := 418) hx hb dL_law_32 (by rw [c_12]; decide) (by rw [c_12]; decide) (by rw [c_12]; rfl) (by decide) ?_
        exact law_odds hx hb hml hown hts hX hbl hbA hA hE hST hL hn hi hv hl5 hP hD hS hl kk
      by_cases c_13 : x = 13
      · refine lv_tableIn (tgt := 452) hx hb dL_law_32 (by rw [c_13]; decide) (by rw [c_13]; decide) (by rw [c_13]; rfl) (by decide) ?_
        exact law_match hx hb hml hown hts hX hbl hbA hA hE hST hL hn hi hv hl5 hP hD hS hl kk
      by_cases c_14 : x = 14
      · refine lv_tableIn (tgt := 475) hx hb dL_law_32 (by rw [c_14]; decide) (by rw [c_14]; decide) (by rw [c_14]; rfl) (by decide) ?_
        exact law_see hx hb hml hown hts hX hbl hbA hA hE hST hL hn hi hv hl5 hP hD hS hl kk
      by_cases c_15 : x = 15
      · refine lv_tableIn (tgt := 534) hx hb dL_law_32 (by rw [c_15]; decide) (by rw [c_15]; decide) (by rw [c_15]; rfl) (by decide) ?_
        exact law_forget hx hb hml hown hts hX hbl hbA hA hE hST hL hn hi hv hl5 hP hD hS hl kk
      by_cases c_16 : x = 16
      · refine lv_tableIn (tgt := 547) hx hb dL_law_32 (by rw [c_16]; decide) (by rw [c_16]; decide) (by rw [c_16]; rfl) (by decide) ?_
        exact law_centuries hx hb hml hown hts hX hbl hbA hA hE hST hL hn hi hv hl5 hP hD hS hl kk
      by_cases c_17 : x = 17
      · refine lv_tableIn (tgt := 590) hx hb dL_law_32 (by rw [c_17]; decide) (by rw [c_17]; decide) (by rw [c_17]; rfl) (by decide) ?_
        exact law_image hx hb hml hown hts hX hbl hbA hA hE hST hL hn hi hv hl5 hP hD hS hl kk
      by_cases c_18 : x = 18
      · refine lv_tableIn (tgt := 603) hx hb dL_law_32 (by rw [c_18]; decide) (by rw [c_18]; decide) (by rw [c_18]; rfl) (by decide) ?_
        exact law_restore hx hb hml hown hts hX hbl hbA hA hE hST hL hn hi hv hl5 hP hD hS hl kk
      by_cases c_19 : x = 19
      · refine lv_tableIn (tgt := 616) hx hb dL_law_32 (by rw [c_19]; decide) (by rw [c_19]; decide) (by rw [c_19]; rfl) (by decide) ?_
        exact law_count hx hb hml hown hts hX hbl hbA hA hE hST hL hn hi hv hl5 hP hD hS hl kk
      by_cases c_20 : x = 20
      · refine lv_tableIn (tgt := 639) hx hb dL_law_32 (by rw [c_20]; decide) (by rw [c_20]; decide) (by rw [c_20]; rfl) (by decide) ?_
        exact law_digest hx hb hml hown hts hX hbl hbA hA hE hST hL hn hi hv hl5 hP hD hS hl kk
      refine lv_tableOut (tgt := 653) hx hb dL_law_32 (zsw (n := 20) (fun j hj => match j, hj with | 0, _ => c_0 | 1, _ => c_1 | 2, _ => c_2 | 3, _ => c_3 | 4, _ => c_4 | 5, _ => c_5 | 6, _ => c_6 | 7, _ => c_7 | 8, _ => c_8 | 9, _ => c_9 | 10, _ => c_10 | 11, _ => c_11 | 12, _ => c_12 | 13, _ => c_13 | 14, _ => c_14 | 15, _ => c_15 | 16, _ => c_16 | 17, _ => c_17 | 18, _ => c_18 | 19, _ => c_19 | 20, _ => c_20 | k + 21, h => absurd h (by omega)) (by decide)) (by decide) ?_
      exact kk _ _ _ (LawS_mk (Lv_up hv hn) hl5 ⟨rfl, rfl, rfl, rfl, rfl, rfl, rfl⟩ hP hD) hS hl
