
theorem clp (v : Int32) : ∃ t : Nat, t ≤ 10 ∧ (if 0 ≤ v then (if v ≤ 10 then v else 10) else 0) = nI t := by
  by_cases h0 : 0 ≤ v
  · rw [if_pos h0]
    by_cases h1 : v ≤ 10
    · rw [if_pos h1]
      obtain ⟨j, hj, e⟩ := nI_of2 (n := 10) (M := 10) (by decide) (Int32.not_lt.mpr h0) h1
      exact ⟨j, hj, e⟩
    · rw [if_neg h1]
      exact ⟨10, by omega, rfl⟩
  · rw [if_neg h0]
    exact ⟨0, by omega, rfl⟩
theorem tb_r (k f h : Int32) : ∃ t : Nat, t ≤ 10 ∧ tb k f h = nI t := clp _
theorem tIn_r {rw ns : Nat → Int32} {h : Nat} (hn : ¬ ns (4 * h + 1) = -1) : ∃ t : Nat, t ≤ 10 ∧ tIn rw ns h = nI t ∧ (tIn rw ns h).toNatClampNeg = t := by
  obtain ⟨t, ht, e⟩ := tb_r (rw (3 * (ns (4 * h + 1)).toNatClampNeg)) (rw (3 * (ns (4 * h + 1)).toNatClampNeg + 1)) (ns (4 * h))
  have e2 : tIn rw ns h = nI t := by rw [tIn, if_neg hn, e]
  exact ⟨t, ht, e2, by rw [e2, nI_clamp (by omega)]⟩
theorem zl0 {n : Nat} (h : 0 < n) (h2 : n < 2 ^ 62) : ¬ lN n = 0 := fun q => by
  have := (pk_lEQ (a := n) (b := 0) (by omega) (by omega)).mp q
  omega
theorem oUp_le {rw ns : Nat → Int32} {m : Nat} (hm : m ≤ 2) : ∀ h : Nat, oUp rw ns m h ≤ 100 ^ h
  | 0 => Nat.le_refl 1
  | h + 1 => by
    have ih := oUp_le (rw := rw) (ns := ns) hm h
    rw [oUp]
    split
    · exact Nat.le_trans ih (Nat.pow_le_pow_right (by omega) (by omega))
    · rename_i hn
      obtain ⟨t, ht, -, e⟩ := tIn_r (rw := rw) hn
      rw [e, Nat.pow_succ]
      refine Nat.mul_le_mul ih (Nat.le_trans (Nat.pow_le_pow_left ht m) ?_)
      exact Nat.le_trans (Nat.pow_le_pow_right (by omega) hm) (by decide)
theorem oLo_le {ns : Nat → Int32} {m : Nat} (hm : m ≤ 2) : ∀ h : Nat, oLo ns m h ≤ 100 ^ h
  | 0 => Nat.le_refl 1
  | h + 1 => by
    have ih := oLo_le (ns := ns) hm h
    rw [oLo]
    split
    · exact Nat.le_trans ih (Nat.pow_le_pow_right (by omega) (by omega))
    · rw [Nat.pow_succ]
      exact Nat.mul_le_mul ih (Nat.le_trans (Nat.pow_le_pow_right (by omega) hm) (by decide))
theorem oLo_pos {ns : Nat → Int32} {m : Nat} : ∀ h : Nat, 0 < oLo ns m h
  | 0 => Nat.one_pos
  | h + 1 => by
    rw [oLo]
    split
    · exact oLo_pos h
    · exact Nat.mul_pos (oLo_pos h) (Nat.pow_pos (by omega))
theorem pow100 {h : Nat} (hh : h ≤ 5) : 100 ^ h < 2 ^ 62 := Nat.lt_of_le_of_lt (Nat.pow_le_pow_right (by omega) hh) (by decide)
def oddM (rw ns : Nat → Int32) (m Hn : Nat) (what : Int32) : Int64 := if what = 0 then lN (oUp rw ns m Hn / Nat.gcd (oLo ns m Hn) (oUp rw ns m Hn)) else lN (oLo ns m Hn / Nat.gcd (oLo ns m Hn) (oUp rw ns m Hn))
def fOddsM (rw ns : Nat → Int32) (Hn : Nat) (many what : Int32) : Int64 := if (1 ≤ many ∧ many ≤ 2) ∧ (0 ≤ what ∧ what ≤ 1) then (if Hn = 0 then -103 else oddM rw ns many.toNatClampNeg Hn what) else -102
/-- the scan's invariant -/
def scI (i : Nat) (e : Int32) : Prop := (e = -1 ∧ i ≤ 14) ∨ ∃ E : Nat, e = nI E ∧ E % 3 = 2 ∧ 5 ≤ E ∧ E ≤ 14 ∧ E < i ∧ i ≤ E + 6
theorem nI_nm1 {E : Nat} (h : E < 2 ^ 31) : ¬ nI E = -1 := fun q => by
  have := congrArg Int32.toInt q
  rw [nI_toInt h] at this
  have h2 : (-1 : Int32).toInt = -1 := by decide
  omega
theorem scI_s {pg : Nat → Int32} {i : Nat} {e : Int32} (h : scI i e) (hg : ¬ gR pg e i = 0) : scI (i + 1) (gE pg e i) := by
  rcases h with ⟨he, hi⟩ | ⟨E, he, h3, h5, h14, hlt, hle⟩
  · rw [gR, if_pos he] at hg
    by_cases h3 : i % 3 = 2
    · rw [if_pos h3] at hg
      by_cases hs : pg i = 59 ∧ 4 < i
      · right
        rw [gE, if_pos ⟨he, h3, hs.1, hs.2⟩]
        exact ⟨i, rfl, h3, by omega, hi, by omega, by omega⟩
      · rw [if_neg hs] at hg
        have h2 := zb_1 hg
        left
        rw [gE, if_neg (fun q => hs q.2.2)]
        exact ⟨he, by omega⟩
    · left
      rw [gE, if_neg (fun q => h3 q.2.1)]
      exact ⟨he, by omega⟩
  · have hn : ¬ e = -1 := by rw [he]; exact nI_nm1 (by omega)
    rw [gR, if_neg hn] at hg
    have h2 := (zb_1 hg).1
    right
    rw [gE, if_neg (fun q => hn q.1)]
    refine ⟨E, he, h3, h5, h14, by omega, ?_⟩
    rw [he] at h2
    have h6 := Int32.lt_iff_toInt_lt.mp h2
    rw [pk_sub_toInt (by omega) (by omega)] at h6
    have h7 : (6 : Int32).toInt = 6 := by decide
    omega
theorem scF_i {pg : Nat → Int32} : ∀ (n i : Nat) (e : Int32), scI i e → i + n ≤ 22 → (scF (gR pg) (gE pg) n i e).1 ≤ i + n ∧ ((scF (gR pg) (gE pg) n i e).1 = i + n → scI (i + n) (scF (gR pg) (gE pg) n i e).2)
  | 0, i, e, h, _ => ⟨Nat.le_refl _, fun _ => h⟩
  | n + 1, i, e, h, hb => by
    rw [scF]
    by_cases hg : gR pg e i = 0
    · rw [if_pos hg]
      exact ⟨by show i ≤ _; omega, fun q => absurd q (by show ¬ i = _; omega)⟩
    · rw [if_neg hg]
      have ih := scF_i (pg := pg) n (i + 1) (gE pg e i) (scI_s h hg) (by omega)
      rw [show i + 1 + n = i + (n + 1) by omega] at ih
      exact ih
theorem scM_le {pg : Nat → Int32} {P : Nat} (hP : P ≤ 22) : (scM pg P).1 ≤ P := by
  have h := (scF_i (pg := pg) P 0 (-1) (Or.inl ⟨rfl, by omega⟩) (by omega)).1
  rw [Nat.zero_add] at h
  exact h
theorem scM_ok {pg : Nat → Int32} {P : Nat} (hP : P ≤ 22) (h : P ≤ (scM pg P).1) (hn : ¬ (scM pg P).2 = -1) : ∃ E : Nat, (scM pg P).2 = nI E ∧ E % 3 = 2 ∧ 5 ≤ E ∧ E ≤ 14 ∧ E < P ∧ P ≤ E + 6 := by
  have h2 := (scF_i (pg := pg) P 0 (-1) (Or.inl ⟨rfl, by omega⟩) (by omega)).2
  rw [Nat.zero_add] at h2
  rcases h2 (Nat.le_antisymm (scM_le hP) h) with q | q
  · exact absurd q.1 hn
  · exact q
def okTM (pg : Nat → Int32) (P : Nat) : Prop := P ≤ (scM pg P).1 ∧ ¬ (scM pg P).2 = -1 ∧ 3 ≤ nI P - (scM pg P).2
def towR (pg rw : Nat → Int32) : Nat → Nat → Int32
  | 0 => rw
  | k + 1 => upd (upd (upd (towR pg rw k) (3 * k) (kb (pg (3 * k)))) (3 * k + 1) (pg (3 * k + 1) - 48)) (3 * k + 2) 0
def towN (pg : Nat → Int32) (E : Nat) (ns : Nat → Int32) : Nat → Nat → Int32
  | 0 => ns
  | h + 1 => empM (upd (towN pg E ns h) (4 * h) (pg (E + 1 + h) - 48)) h
noncomputable def fTowM (pg rw ns : Nat → Int32) (P K Hn : Nat) (ym tm : Int32) (Sm : Nat) : Int32 × Nat × Int32 × Nat × Nat × Int32 × Int32 × Nat × (Nat → Int32) × (Nat → Int32) :=
  (fun (E : Nat) => (fun (d : Decidable (okTM pg P)) => @ite _ (okTM pg P) d (nI (P - E - 1), 0, (scM pg P).2, (E + 1) / 3, P - E - 1, 0, tm + 1, 0, towR pg rw ((E + 1) / 3), towN pg E ns (P - E - 1)) (-103, P, (scM pg P).2, K, Hn, ym, tm, Sm, rw, ns)) (Classical.propDecidable _)) (scM pg P).2.toNatClampNeg
theorem fTowM_t {pg rw ns : Nat → Int32} {P K Hn : Nat} {ym tm : Int32} {Sm E : Nat} (h : okTM pg P) (he : (scM pg P).2 = nI E) (hE : E < 2 ^ 31) : fTowM pg rw ns P K Hn ym tm Sm = (nI (P - E - 1), 0, nI E, (E + 1) / 3, P - E - 1, 0, tm + 1, 0, towR pg rw ((E + 1) / 3), towN pg E ns (P - E - 1)) := by
  unfold fTowM
  simp only [he, nI_clamp hE]
  rw [if_pos h]
theorem fTowM_f {pg rw ns : Nat → Int32} {P K Hn : Nat} {ym tm : Int32} {Sm : Nat} (h : ¬ okTM pg P) : fTowM pg rw ns P K Hn ym tm Sm = (-103, P, (scM pg P).2, K, Hn, ym, tm, Sm, rw, ns) := by
  unfold fTowM
  simp only
  rw [if_neg h]
/-- centuries: a hole's year -/
def cDr (sd : Int32) : Int32 := drM sd / 65536 - drM sd / 65536 / 10 * 10
def cSt (rw : Nat → Int32) (h : Nat) (q : Int32 × Int32 × (Nat → Int32)) : Int32 × Int32 × (Nat → Int32) :=
  if q.2.2 (4 * h + 1) = -1 then q
  else if tIn rw q.2.2 h ≤ cDr q.1 then (drM q.1, q.2.1 + 1, upd (upd q.2.2 (4 * h + 3) (q.2.2 (4 * h + 3) * 0)) (4 * h + 3) ((upd q.2.2 (4 * h + 3) (q.2.2 (4 * h + 3) * 0)) (4 * h + 3) + 0))
  else (drM q.1, q.2.1 + 0, upd (upd q.2.2 (4 * h + 3) (q.2.2 (4 * h + 3) * 1)) (4 * h + 3) ((upd q.2.2 (4 * h + 3) (q.2.2 (4 * h + 3) * 1)) (4 * h + 3) + (if rw (3 * (q.2.2 (4 * h + 1)).toNatClampNeg) = 2 then 0 else 1)))
def cH (rw : Nat → Int32) (q : Int32 × Int32 × (Nat → Int32)) : Nat → Int32 × Int32 × (Nat → Int32)
  | 0 => q
  | h + 1 => cSt rw h (cH rw q h)
def cY (rw : Nat → Int32) (Hn : Nat) (q : Int32 × Int32 × (Nat → Int32)) : Nat → Int32 × Int32 × (Nat → Int32)
  | 0 => q
  | y + 1 => cH rw (cY rw Hn q y) Hn
theorem letOk_cSt {rw : Nat → Int32} {h K Hn : Nat} {q : Int32 × Int32 × (Nat → Int32)} (ok : letOk q.2.2 K Hn) : letOk (cSt rw h q).2.2 K Hn := by
  unfold cSt
  split
  · exact ok
  · split
    · exact letOk_up (letOk_up ok (Or.inr rfl)) (Or.inr rfl)
    · exact letOk_up (letOk_up ok (Or.inr rfl)) (Or.inr rfl)
theorem letOk_cH {rw : Nat → Int32} {K Hn : Nat} {q : Int32 × Int32 × (Nat → Int32)} (ok : letOk q.2.2 K Hn) : ∀ i, letOk (cH rw q i).2.2 K Hn
  | 0 => ok
  | i + 1 => letOk_cSt (letOk_cH ok i)
theorem letOk_cY {rw : Nat → Int32} {K Hn : Nat} {q : Int32 × Int32 × (Nat → Int32)} (ok : letOk q.2.2 K Hn) : ∀ i, letOk (cY rw Hn q i).2.2 K Hn
  | 0 => ok
  | i + 1 => letOk_cH (letOk_cY ok i) Hn
def cenM (rw ns : Nat → Int32) (Hn many : Nat) (seed what : Int32) : Int32 := if what = 0 then (cY rw Hn (seed, 0, ns) many).2.1 else if what = 1 then eInN (cY rw Hn (seed, 0, ns) many).2.2 31 Hn else (cY rw Hn (seed, 0, ns) many).1
def fCenM (rw ns sv : Nat → Int32) (Hn : Nat) (sd many seed what : Int32) : Int32 × Int32 × (Nat → Int32) :=
  if (1 ≤ many ∧ many ≤ 60) ∧ ¬ seed < 0 ∧ (0 ≤ what ∧ what ≤ 2) then (if Hn = 0 then (-103, sd, sv) else (cenM rw ns Hn many.toNatClampNeg seed what, (cY rw Hn (seed, 0, ns) many.toNatClampNeg).1, ns)) else (-102, sd, sv)
set_option maxHeartbeats 4000000 in
set_option maxRecDepth 100000 in
theorem c_X6_oddsOf (l : Launch) (D : va_G) (cI cZ cA : ClassId) (mo : Nat) (apg : Nat) (P : Nat) (ea : Int32) (K : Nat) (Hn : Nat) (ym : Int32) (tm : Int32) (arw : Nat) (ans : Nat) (aro : Nat) (abo : Nat) (Sm : Nat) (asi : Nat) (sd : Int32) (asv : Nat) (kt : Int32) (ky : Int32) (ks : Nat) (akr : Nat) (akn : Nat) (aks : Nat) (ha : Int64) (rw : Nat → Int32) (ns : Nat → Int32) (m2 : Nat) (what : Int32) (hK : K ≤ 5) (hH : Hn ≤ 5) (ok : letOk ns K Hn) (hm1 : 1 ≤ m2) (hm2 : m2 ≤ 2) : Met l yX6_oddsOf wsX6_oddsOf (zr 4) (va_Pc [.ref mo, .int (nI m2), .int what] (zPr D cI cZ cA [(mo, .inr (6, [.ref apg, .int (nI P), .int ea, .int (nI K), .int (nI Hn), .int ym, .int tm, .ref arw, .ref ans, .ref aro, .ref abo, .int (nI Sm), .ref asi, .int sd, .ref asv, .int kt, .int ky, .int (nI ks), .ref akr, .ref akn, .ref aks, .long ha])), (arw, .inl (cI, 15, .inl rw)), (ans, .inl (cI, 20, .inl ns))])) (vp_Sl (fun r => r = oddM rw ns m2 Hn what)) 0 0 (fun _ => False) := by
  refine Met.ofW (cc := cX6_oddsOf) (maxL := 9) (ret := (some .long)) (by decide) rfl ?_
  intro p e s m args below meth c s₁ B hml hv
  obtain ⟨rfl, hP, hE⟩ := hv
  have hx := B.exec
  have hb := B.bytes
  have hr := B.returns
  have hts := atoms_spec (ws := wsX6_oddsOf) B.pre
  have hown : s.vm.findClass RX6 = some m.cls := findClass_of_methodNamed B.named
  have hlocks := B.notSynchronized
  have hP : va_P D vwCl [(mo, .inr (6, [.ref apg, .int (nI P), .int ea, .int (nI K), .int (nI Hn), .int ym, .int tm, .ref arw, .ref ans, .ref aro, .ref abo, .int (nI Sm), .ref asi, .int sd, .ref asv, .int kt, .int ky, .int (nI ks), .ref akr, .ref akn, .ref aks, .long ha])), (arw, .inl (cI, 15, .inl rw)), (ans, .inl (cI, 20, .inl ns))] s.heap := hP
  have hl := lv_entry ([.ref mo, .int (nI m2), .int what]) (n := 9) (Nat.le_of_ble_eq_true rfl)
  rw [lg_entry_eq]
  generalize (lg_sl ([.ref mo, .int (nI m2), .int what]) ++ List.replicate (9 - (lg_sl ([.ref mo, .int (nI m2), .int what])).length) Slot.unset).toArray = ls at hl ⊢
  have hl : lv_has ls 9 [(0, .ref mo), (1, .int (nI m2)), (2, .int what)] := hl
  have hinX6 : ∀ w ∈ wsX60, w ∈ wsX6_oddsOf := fun w h => List.mem_cons_of_mem _ (List.mem_append_right _ h)
  have k_0 := hts (.fieldLink RX6 75 "VowDovesModel" "holes" "I") (by decide +kernel)
  have k_1 := hts (.fieldLink RX6 16 "VowDovesModel" "nests" "[I") (by decide +kernel)
  have k_2 := hts (.constantLong RX6 142 (10)) (by decide +kernel)
  refine lv_lconst (v := 1) hx hb dX6_oddsOf_0 (by decide) ?_
  refine lv_lstore_n (lv' := [(3, .long 1), (0, .ref mo), (1, .int (nI m2)), (2, .int what)]) hx hb dX6_oddsOf_1 rfl hl (by decide) rfl (fun ls hl => ?_)
  refine lv_lconst (v := 1) hx hb dX6_oddsOf_2 (by decide) ?_
  refine lv_lstore (lv' := [(5, .long 1), (3, .long 1), (0, .ref mo), (1, .int (nI m2)), (2, .int what)]) hx hb dX6_oddsOf_3 hl (by decide) rfl (fun ls hl => ?_)
  refine lv_iconst (v := 0) hx hb dX6_oddsOf_5 (by decide) ?_
  refine lv_istore (lv' := [(7, .int 0), (5, .long 1), (3, .long 1), (0, .ref mo), (1, .int (nI m2)), (2, .int what)]) hx hb dX6_oddsOf_6 hl (by decide) rfl (fun ls hl => ?_)
  have hc8_1 : ∀ (n : Nat) (h : Nat), (h ≤ Hn) → (Hn + 1 ≤ h + n) → ∀ (w3 : Int64), w3 = lN (oUp rw ns m2 h) → ∀ (w5 : Int64), w5 = lN (oLo ns m2 h) → ∀ (w7 : Int32), w7 = nI h → ∀ (ls : Array Slot), lv_has ls 9 [(7, .int w7), (5, .long w5), (3, .long w3), (0, .ref mo), (1, .int (nI m2)), (2, .int what)] → W p l e (headSpec wsX6_oddsOf (zr 4)).room s m ([.ref mo, .int (nI m2), .int what] : List Value).toArray below meth c s.heap [] 0 0 (MQ below (vp_Sl (fun r => r = oddM rw ns m2 Hn what)) ([.ref mo, .int (nI m2), .int what] : List Value).toArray s 0 0 (fun _ => False)) (F0 m 8 ls []) := by
    intro n
    induction n with
    | zero => intro h hh hfu; exact absurd hfu (by omega)
    | succ n ihhc8_1 =>
      intro h hh hfu w3 ew3 w5 ew5 w7 ew7 ls hl
      subst ew3
      subst ew5
      subst ew7
      refine lv_iload hx hb dX6_oddsOf_8 (lv_at hl 0 rfl) ?_
      refine lv_aload_n hx hb dX6_oddsOf_10 rfl (lv_at hl 3 rfl) ?_
      refine va_get (D := D) (ci := 6) (v := .int (nI Hn)) (C := RX6) (T := TX6) (N := 22) hx hb hts hinX6 hown hE.1 hP 0 rfl rfl 4 (by decide) k_0 (fun _ h9 => h9) rfl dX6_oddsOf_11 ?_
      refine lv_icmp_ge (tgt := 71) hx hb dX6_oddsOf_14 (by decide) (fun c_14 => ?_) (fun c_14 => ?_)
      · have n_14 := zn_le (a := Hn) (b := h) rfl rfl c_14 (by omega) (by omega)
        obtain rfl : Hn = h := by omega
        have hu := Nat.lt_of_le_of_lt (oUp_le (rw := rw) (ns := ns) hm2 Hn) (pow100 hH)
        have hlo := Nat.lt_of_le_of_lt (oLo_le (ns := ns) hm2 Hn) (pow100 hH)
        have hlp := oLo_pos (ns := ns) (m := m2) Hn
        have hgp := Nat.gcd_pos_of_pos_left (oUp rw ns m2 Hn) hlp
        have hgl := Nat.gcd_le_left (oUp rw ns m2 Hn) hlp
        refine lv_lload hx hb dX6_oddsOf_71 (lv_at hl 1 rfl) ?_
        refine lv_lload_n hx hb dX6_oddsOf_73 rfl (lv_at hl 2 rfl) ?_
        refine z_roSl (As := [.long (lN (oLo ns m2 Hn)), .long (lN (oUp rw ns m2 Hn))]) (rest := []) ⟨hx, hb, hml, hown, hts⟩ (c_X6_common l D cI cZ cA (oLo ns m2 Hn) (oUp rw ns m2 Hn) hlo hu) (va_cwS 2 hts gX6_oddsOf_X6_common rfl rfl rfl (by decide +kernel) ⟨Nat.le_of_ble_eq_true rfl, Nat.le_of_ble_eq_true rfl⟩) hE hP [] rfl rfl hl.1 rfl (Nat.le_of_ble_eq_true rfl) dX6_oddsOf_74 ⟨Nat.zero_le _, Nat.zero_le _⟩ ?_
        refine lv_lstore (lv' := [(7, .long (lN (Nat.gcd (oLo ns m2 Hn) (oUp rw ns m2 Hn)))), (5, .long (lN (oLo ns m2 Hn))), (3, .long (lN (oUp rw ns m2 Hn))), (0, .ref mo), (1, .int (nI m2)), (2, .int what)]) hx hb dX6_oddsOf_77 hl (by decide) rfl (fun ls hl => ?_)
        refine lv_iload_n hx hb dX6_oddsOf_79 rfl (lv_at hl 5 rfl) ?_
        refine lv_if_ne (tgt := 90) hx hb dX6_oddsOf_80 (by decide) (fun c_80 => ?_) (fun c_80 => ?_)
        · refine lv_lload hx hb dX6_oddsOf_90 (lv_at hl 1 rfl) ?_
          refine lv_lload hx hb dX6_oddsOf_92 (lv_at hl 0 rfl) ?_
          refine lv_ldiv hx hb dX6_oddsOf_94 (zl0 hgp (by omega)) ?_
          exact W.lret (v := (lN (oLo ns m2 Hn)) / (lN (Nat.gcd (oLo ns m2 Hn) (oUp rw ns m2 Hn)))) hx hb hr (fun t ht hW => ⟨((lN (oLo ns m2 Hn)) / (lN (Nat.gcd (oLo ns m2 Hn) (oUp rw ns m2 Hn)))), rfl, (by rw [oddM, if_neg c_80, pk_lDiv (by omega) hgp (by omega)]), ht⟩) (fun q h => by cases h) dX6_oddsOf_95
        · refine lv_lload_n hx hb dX6_oddsOf_83 rfl (lv_at hl 2 rfl) ?_
          refine lv_lload hx hb dX6_oddsOf_84 (lv_at hl 0 rfl) ?_
          refine lv_ldiv hx hb dX6_oddsOf_86 (zl0 hgp (by omega)) ?_
          refine lv_goto (tgt := 95) hx hb dX6_oddsOf_87 (by decide) ?_
          exact W.lret (v := (lN (oUp rw ns m2 Hn)) / (lN (Nat.gcd (oLo ns m2 Hn) (oUp rw ns m2 Hn)))) hx hb hr (fun t ht hW => ⟨((lN (oUp rw ns m2 Hn)) / (lN (Nat.gcd (oLo ns m2 Hn) (oUp rw ns m2 Hn)))), rfl, (by rw [oddM, if_pos c_80, pk_lDiv (by omega) hgp (by omega)]), ht⟩) (fun q h => by cases h) dX6_oddsOf_95
      · have n_14 := zn_nle (a := Hn) (b := h) rfl rfl c_14 (by omega) (by omega)
        refine lv_iconst (v := 0) hx hb dX6_oddsOf_17 (by decide) ?_
        refine lv_istore (lv' := [(8, .int 0), (7, .int (nI h)), (5, .long (lN (oLo ns m2 h))), (3, .long (lN (oUp rw ns m2 h))), (0, .ref mo), (1, .int (nI m2)), (2, .int what)]) hx hb dX6_oddsOf_18 hl (by decide) rfl (fun ls hl => ?_)
        have hc20_2 : ∀ (n : Nat) (k : Nat), (k ≤ m2) → (k = 0 ∨ ¬ ns (4 * h + 1) = -1) → (m2 + 1 ≤ k + n) → ∀ (w3 : Int64), w3 = lN (oUp rw ns m2 h * (tIn rw ns h).toNatClampNeg ^ k) → ∀ (w5 : Int64), w5 = lN (oLo ns m2 h * 10 ^ k) → ∀ (w8 : Int32), w8 = nI k → ∀ (ls : Array Slot), lv_has ls 9 [(8, .int w8), (7, .int (nI h)), (5, .long w5), (3, .long w3), (0, .ref mo), (1, .int (nI m2)), (2, .int what)] → W p l e (headSpec wsX6_oddsOf (zr 4)).room s m ([.ref mo, .int (nI m2), .int what] : List Value).toArray below meth c s.heap [] 0 0 (MQ below (vp_Sl (fun r => r = oddM rw ns m2 Hn what)) ([.ref mo, .int (nI m2), .int what] : List Value).toArray s 0 0 (fun _ => False)) (F0 m 20 ls []) := by
          intro n
          induction n with
          | zero => intro k hk hkl hfu; exact absurd hfu (by omega)
          | succ n ihhc20_2 =>
            intro k hk hkl hfu w3 ew3 w5 ew5 w8 ew8 ls hl
            subst ew3
            subst ew5
            subst ew8
            refine lv_iload hx hb dX6_oddsOf_20 (lv_at hl 0 rfl) ?_
            refine lv_iload_n hx hb dX6_oddsOf_22 rfl (lv_at hl 5 rfl) ?_
            refine lv_icmp_ge (tgt := 65) hx hb dX6_oddsOf_23 (by decide) (fun c_23 => ?_) (fun c_23 => ?_)
            · have n_23 := zn_le (a := m2) (b := k) rfl rfl c_23 (by omega) (by omega)
              refine lv_iinc (v := nI (h + 1)) (lv' := [(7, .int (nI (h + 1))), (8, .int (nI k)), (5, .long (lN (oLo ns m2 h * 10 ^ k))), (3, .long (lN (oUp rw ns m2 h * (tIn rw ns h).toNatClampNeg ^ k))), (0, .ref mo), (1, .int (nI m2)), (2, .int what)]) hx hb dX6_oddsOf_65 hl (k := 1) rfl (nI_add h 1) (by decide) rfl (fun ls hl => ?_)
              refine lv_goto (tgt := 8) hx hb dX6_oddsOf_68 (by decide) ?_
              exact ihhc8_1 (h + 1) (by omega) (by omega) (lN (oUp rw ns m2 h * (tIn rw ns h).toNatClampNeg ^ k)) (by rw [oUp, if_neg (hkl.resolve_left (by omega)), show k = m2 by omega]) (lN (oLo ns m2 h * 10 ^ k)) (by rw [oLo, if_neg (hkl.resolve_left (by omega)), show k = m2 by omega]) (nI (h + 1)) rfl ls (lv_sub hl [0, 2, 3, 4, 5, 6] rfl)
            · have n_23 := zn_nle (a := m2) (b := k) rfl rfl c_23 (by omega) (by omega)
              refine lv_aload_n hx hb dX6_oddsOf_26 rfl (lv_at hl 4 rfl) ?_
              refine va_get (D := D) (ci := 6) (v := .ref ans) (C := RX6) (T := TX6) (N := 22) hx hb hts hinX6 hown hE.1 hP 0 rfl rfl 8 (by decide) k_1 (fun _ h9 => h9) rfl dX6_oddsOf_27 ?_
              refine lv_iconst (v := 4) hx hb dX6_oddsOf_30 (by decide) ?_
              refine lv_iload hx hb dX6_oddsOf_31 (lv_at hl 1 rfl) ?_
              refine z_imulN hx hb (a := 4) (b := h) rfl rfl dX6_oddsOf_33 ?_
              refine lv_iconst (v := 1) hx hb dX6_oddsOf_34 (by decide) ?_
              refine z_iaddN hx hb (a := 4 * h) (b := 1) rfl rfl dX6_oddsOf_35 ?_
              refine z_iald hx hb hE hP 2 rfl (j := (4 * h) + 1) rfl (by omega) (by decide) dX6_oddsOf_36 ?_
              refine lv_iconst (v := (-1)) hx hb dX6_oddsOf_37 (by decide) ?_
              refine lv_icmp_eq (tgt := 65) hx hb dX6_oddsOf_38 (by decide) (fun c_38 => ?_) (fun c_38 => ?_)
              · have hk0 : k = 0 := by
                  rcases hkl with q | q
                  · exact q
                  · exact absurd c_38 q
                refine lv_iinc (v := nI (h + 1)) (lv' := [(7, .int (nI (h + 1))), (8, .int (nI k)), (5, .long (lN (oLo ns m2 h * 10 ^ k))), (3, .long (lN (oUp rw ns m2 h * (tIn rw ns h).toNatClampNeg ^ k))), (0, .ref mo), (1, .int (nI m2)), (2, .int what)]) hx hb dX6_oddsOf_65 hl (k := 1) rfl (nI_add h 1) (by decide) rfl (fun ls hl => ?_)
                refine lv_goto (tgt := 8) hx hb dX6_oddsOf_68 (by decide) ?_
                exact ihhc8_1 (h + 1) (by omega) (by omega) (lN (oUp rw ns m2 h * (tIn rw ns h).toNatClampNeg ^ k)) (by rw [oUp, if_pos c_38, show k = 0 by omega, Nat.pow_zero, Nat.mul_one]) (lN (oLo ns m2 h * 10 ^ k)) (by rw [oLo, if_pos c_38, show k = 0 by omega, Nat.pow_zero, Nat.mul_one]) (nI (h + 1)) rfl ls (lv_sub hl [0, 2, 3, 4, 5, 6] rfl)
              · refine lv_lload_n hx hb dX6_oddsOf_41 rfl (lv_at hl 3 rfl) ?_
                refine lv_aload_n hx hb dX6_oddsOf_42 rfl (lv_at hl 4 rfl) ?_
                refine lv_iload hx hb dX6_oddsOf_43 (lv_at hl 1 rfl) ?_
                refine z_roVi (As := [.int (nI h)]) (rest := [.long (lN (oUp rw ns m2 h * (tIn rw ns h).toNatClampNeg ^ k))]) ⟨hx, hb, hml, hown, hts⟩ (c_X6_tenthsIn l D cI cZ cA mo apg P ea K Hn ym tm arw ans aro abo Sm asi sd asv kt ky ks akr akn aks ha rw ns h (by first | assumption | omega) (by first | assumption | omega) (by first | assumption | omega) (by first | assumption | omega)) (cwV 1 hts gX6_oddsOf_X6_tenthsIn rfl rfl rfl (by decide +kernel) ⟨Nat.le_of_ble_eq_true rfl, Nat.le_of_ble_eq_true rfl⟩) hE hP [0, 1, 2] rfl 0 6 rfl rfl rfl hl.1 rfl (Nat.le_of_ble_eq_true rfl) dX6_oddsOf_45 ⟨Nat.zero_le _, Nat.zero_le _⟩ ?_
                obtain ⟨t, ht10, et, ett⟩ := tIn_r (rw := rw) c_38
                refine lv_i2l (v := ((tIn rw ns h) : Int32).toInt64) hx hb dX6_oddsOf_48 rfl ?_
                refine lv_lmul hx hb dX6_oddsOf_49 ?_
                refine lv_lstore_n (lv' := [(3, .long ((lN (oUp rw ns m2 h * (tIn rw ns h).toNatClampNeg ^ k)) * (((tIn rw ns h) : Int32).toInt64))), (8, .int (nI k)), (7, .int (nI h)), (5, .long (lN (oLo ns m2 h * 10 ^ k))), (0, .ref mo), (1, .int (nI m2)), (2, .int what)]) hx hb dX6_oddsOf_50 rfl hl (by decide) rfl (fun ls hl => ?_)
                refine lv_lload hx hb dX6_oddsOf_51 (lv_at hl 3 rfl) ?_
                refine lv_ldc2 (v := 10) hx hb hown k_2 dX6_oddsOf_53 ?_
                refine lv_lmul hx hb dX6_oddsOf_56 ?_
                refine lv_lstore (lv' := [(5, .long ((lN (oLo ns m2 h * 10 ^ k)) * 10)), (3, .long ((lN (oUp rw ns m2 h * (tIn rw ns h).toNatClampNeg ^ k)) * (((tIn rw ns h) : Int32).toInt64))), (8, .int (nI k)), (7, .int (nI h)), (0, .ref mo), (1, .int (nI m2)), (2, .int what)]) hx hb dX6_oddsOf_57 hl (by decide) rfl (fun ls hl => ?_)
                refine lv_iinc (v := nI (k + 1)) (lv' := [(8, .int (nI (k + 1))), (5, .long ((lN (oLo ns m2 h * 10 ^ k)) * 10)), (3, .long ((lN (oUp rw ns m2 h * (tIn rw ns h).toNatClampNeg ^ k)) * (((tIn rw ns h) : Int32).toInt64))), (7, .int (nI h)), (0, .ref mo), (1, .int (nI m2)), (2, .int what)]) hx hb dX6_oddsOf_59 hl (k := 2) rfl (nI_add k 1) (by decide) rfl (fun ls hl => ?_)
                refine lv_goto (tgt := 20) hx hb dX6_oddsOf_62 (by decide) ?_
                exact ihhc20_2 (k + 1) (by omega) (Or.inr c_38) (by omega) ((lN (oUp rw ns m2 h * (tIn rw ns h).toNatClampNeg ^ k)) * (((tIn rw ns h) : Int32).toInt64)) (by rw [ett, et, nI_l (by omega), lN_mul, Nat.pow_succ, Nat.mul_assoc]) ((lN (oLo ns m2 h * 10 ^ k)) * 10) (by rw [show (10 : Int64) = lN 10 from rfl, lN_mul, Nat.pow_succ, Nat.mul_assoc]) (nI (k + 1)) rfl ls (lv_sub hl [0, 3, 1, 2, 4, 5, 6] rfl)
        exact hc20_2 (m2 + 1) 0 (by omega) (Or.inl rfl) (by omega) (lN (oUp rw ns m2 h)) (by rw [Nat.pow_zero, Nat.mul_one]) (lN (oLo ns m2 h)) (by rw [Nat.pow_zero, Nat.mul_one]) 0 rfl ls (lv_sub hl [0, 1, 2, 3, 4, 5, 6] rfl)
  exact hc8_1 (Hn + 1) 0 (by omega) (by omega) 1 rfl 1 rfl 0 rfl ls (lv_sub hl [0, 1, 2, 3, 4, 5] rfl)

set_option maxHeartbeats 4000000 in
set_option maxRecDepth 100000 in
theorem c_X6_odds (l : Launch) (D : va_G) (cI cZ cA : ClassId) (mo : Nat) (apg : Nat) (P : Nat) (ea : Int32) (K : Nat) (Hn : Nat) (ym : Int32) (tm : Int32) (arw : Nat) (ans : Nat) (aro : Nat) (abo : Nat) (Sm : Nat) (asi : Nat) (sd : Int32) (asv : Nat) (kt : Int32) (ky : Int32) (ks : Nat) (akr : Nat) (akn : Nat) (aks : Nat) (ha : Int64) (rw : Nat → Int32) (ns : Nat → Int32) (many : Int32) (what : Int32) (hK : K ≤ 5) (hH : Hn ≤ 5) (ok : letOk ns K Hn) : Met l yX6_odds wsX6_odds (zr 5) (va_Pc [.ref mo, .int many, .int what] (zPr D cI cZ cA [(mo, .inr (6, [.ref apg, .int (nI P), .int ea, .int (nI K), .int (nI Hn), .int ym, .int tm, .ref arw, .ref ans, .ref aro, .ref abo, .int (nI Sm), .ref asi, .int sd, .ref asv, .int kt, .int ky, .int (nI ks), .ref akr, .ref akn, .ref aks, .long ha])), (arw, .inl (cI, 15, .inl rw)), (ans, .inl (cI, 20, .inl ns))])) (vp_Sl (fun r => r = fOddsM rw ns Hn many what)) 0 0 (fun _ => False) := by
  refine Met.ofW (cc := cX6_odds) (maxL := 3) (ret := (some .long)) (by decide) rfl ?_
  intro p e s m args below meth c s₁ B hml hv
  obtain ⟨rfl, hP, hE⟩ := hv
  have hx := B.exec
  have hb := B.bytes
  have hr := B.returns
  have hts := atoms_spec (ws := wsX6_odds) B.pre
  have hown : s.vm.findClass RX6 = some m.cls := findClass_of_methodNamed B.named
  have hlocks := B.notSynchronized
  have hP : va_P D vwCl [(mo, .inr (6, [.ref apg, .int (nI P), .int ea, .int (nI K), .int (nI Hn), .int ym, .int tm, .ref arw, .ref ans, .ref aro, .ref abo, .int (nI Sm), .ref asi, .int sd, .ref asv, .int kt, .int ky, .int (nI ks), .ref akr, .ref akn, .ref aks, .long ha])), (arw, .inl (cI, 15, .inl rw)), (ans, .inl (cI, 20, .inl ns))] s.heap := hP
  have hl := lv_entry ([.ref mo, .int many, .int what]) (n := 3) (Nat.le_of_ble_eq_true rfl)
  rw [lg_entry_eq]
  generalize (lg_sl ([.ref mo, .int many, .int what]) ++ List.replicate (3 - (lg_sl ([.ref mo, .int many, .int what])).length) Slot.unset).toArray = ls at hl ⊢
  have hl : lv_has ls 3 [(0, .ref mo), (1, .int many), (2, .int what)] := hl
  have k_0 := hts (.constantLong RX6 148 (2)) (by decide +kernel)
  have k_1 := hts (.constantLong RX6 150 (-102)) (by decide +kernel)
  have k_2 := hts (.constantLong RX6 152 (-103)) (by decide +kernel)
  refine lv_iload_n hx hb dX6_odds_0 rfl (lv_at hl 1 rfl) ?_
  refine lv_i2l (v := (many : Int32).toInt64) hx hb dX6_odds_1 rfl ?_
  refine lv_lconst (v := 1) hx hb dX6_odds_2 (by decide) ?_
  refine lv_ldc2 (v := 2) hx hb hown k_0 dX6_odds_3 ?_
  refine z_roSi (As := [.long ((many : Int32).toInt64), .long 1, .long 2]) (rest := []) ⟨hx, hb, hml, hown, hts⟩ (c_X6_in l D cI cZ cA ((many : Int32).toInt64) 1 2 ) (va_cwS 3 hts gX6_odds_X6_in rfl rfl rfl (by decide +kernel) ⟨Nat.le_of_ble_eq_true rfl, Nat.le_of_ble_eq_true rfl⟩) hE hP [] rfl rfl hl.1 rfl (Nat.le_of_ble_eq_true rfl) dX6_odds_6 ⟨Nat.zero_le _, Nat.zero_le _⟩ ?_
  refine lv_if_eq (tgt := 22) hx hb dX6_odds_9 (by decide) (fun c_9 => ?_) (fun c_9 => ?_)
  · have c_9 := zb_0 c_9
    rw [zin (lo := 1) (hi := 2) (by decide) (by decide)] at c_9
    refine lv_ldc2 (v := (-102)) hx hb hown k_1 dX6_odds_22 ?_
    exact W.lret (v := (-102)) hx hb hr (fun t ht hW => ⟨(-102), rfl, (by unfold fOddsM; grind), ht⟩) (fun q h => by cases h) dX6_odds_25
  · have c_9 := zb_1 c_9
    rw [zin (lo := 1) (hi := 2) (by decide) (by decide)] at c_9
    obtain ⟨m2, hm2, em⟩ := nI_of2 (n := 2) (M := 2) (by decide) (fun q => absurd (Int32.le_trans c_9.1 (Int32.le_of_lt q)) (by decide)) c_9.2
    have hm1 : 1 ≤ m2 := (nI_leI (a := 1) (b := m2) (by omega) (by omega)).mp (by rw [← em]; exact c_9.1)
    have tm2 : many.toNatClampNeg = m2 := by rw [em, nI_clamp (by omega)]
    refine lv_iload_n hx hb dX6_odds_12 rfl (lv_at hl 2 rfl) ?_
    refine lv_i2l (v := (what : Int32).toInt64) hx hb dX6_odds_13 rfl ?_
    refine lv_lconst (v := 0) hx hb dX6_odds_14 (by decide) ?_
    refine lv_lconst (v := 1) hx hb dX6_odds_15 (by decide) ?_
    refine z_roSi (As := [.long ((what : Int32).toInt64), .long 0, .long 1]) (rest := []) ⟨hx, hb, hml, hown, hts⟩ (c_X6_in l D cI cZ cA ((what : Int32).toInt64) 0 1 ) (va_cwS 3 hts gX6_odds_X6_in rfl rfl rfl (by decide +kernel) ⟨Nat.le_of_ble_eq_true rfl, Nat.le_of_ble_eq_true rfl⟩) hE hP [] rfl rfl hl.1 rfl (Nat.le_of_ble_eq_true rfl) dX6_odds_16 ⟨Nat.zero_le _, Nat.zero_le _⟩ ?_
    refine lv_if_ne (tgt := 26) hx hb dX6_odds_19 (by decide) (fun c_19 => ?_) (fun c_19 => ?_)
    · have c_19 := zb_1 c_19
      rw [zin (lo := 0) (hi := 1) (by decide) (by decide)] at c_19
      refine lv_aload_n hx hb dX6_odds_26 rfl (lv_at hl 0 rfl) ?_
      refine z_roVi (As := []) (rest := []) ⟨hx, hb, hml, hown, hts⟩ (c_X6_lacks l D cI cZ cA mo apg P ea K Hn ym tm arw ans aro abo Sm asi sd asv kt ky ks akr akn aks ha (by first | assumption | omega)) (cwV 0 hts gX6_odds_X6_lacks rfl rfl rfl (by decide +kernel) ⟨Nat.le_of_ble_eq_true rfl, Nat.le_of_ble_eq_true rfl⟩) hE hP [0] rfl 0 6 rfl rfl rfl hl.1 rfl (Nat.le_of_ble_eq_true rfl) dX6_odds_27 ⟨Nat.zero_le _, Nat.zero_le _⟩ ?_
      refine lv_if_eq (tgt := 39) hx hb dX6_odds_30 (by decide) (fun c_30 => ?_) (fun c_30 => ?_)
      · have c_30 := zb_0 c_30
        refine lv_aload_n hx hb dX6_odds_39 rfl (lv_at hl 0 rfl) ?_
        refine lv_iload_n hx hb dX6_odds_40 rfl (lv_at hl 1 rfl) ?_
        refine lv_iload_n hx hb dX6_odds_41 rfl (lv_at hl 2 rfl) ?_
        refine W.eq (g2 := F0 m 42 ls [.int what, .int (nI m2), .ref mo]) (by rw [show (many : Int32) = nI m2 from em]) ?_
        refine z_roVl (As := [.int (nI m2), .int what]) (rest := []) ⟨hx, hb, hml, hown, hts⟩ (c_X6_oddsOf l D cI cZ cA mo apg P ea K Hn ym tm arw ans aro abo Sm asi sd asv kt ky ks akr akn aks ha rw ns m2 what (by first | assumption | omega) (by first | assumption | omega) (by first | assumption | omega) (by first | assumption | omega) (by first | assumption | omega)) (cwV 2 hts gX6_odds_X6_oddsOf rfl rfl rfl (by decide +kernel) ⟨Nat.le_of_ble_eq_true rfl, Nat.le_of_ble_eq_true rfl⟩) hE hP [0, 1, 2] rfl 0 6 rfl rfl rfl hl.1 rfl (Nat.le_of_ble_eq_true rfl) dX6_odds_42 ⟨Nat.zero_le _, Nat.zero_le _⟩ ?_
        exact W.lret (v := (oddM rw ns m2 Hn what)) hx hb hr (fun t ht hW => ⟨(oddM rw ns m2 Hn what), rfl, (by rw [fOddsM, if_pos ⟨c_9, c_19⟩, if_neg c_30, tm2]), ht⟩) (fun q h => by cases h) dX6_odds_45
      · have c_30 := zb_1 c_30
        refine lv_ldc2 (v := (-103)) hx hb hown k_2 dX6_odds_33 ?_
        refine lv_goto (tgt := 45) hx hb dX6_odds_36 (by decide) ?_
        exact W.lret (v := (-103)) hx hb hr (fun t ht hW => ⟨(-103), rfl, (by unfold fOddsM; grind), ht⟩) (fun q h => by cases h) dX6_odds_45
    · have c_19 := zb_0 c_19
      rw [zin (lo := 0) (hi := 1) (by decide) (by decide)] at c_19
      refine lv_ldc2 (v := (-102)) hx hb hown k_1 dX6_odds_22 ?_
      exact W.lret (v := (-102)) hx hb hr (fun t ht hW => ⟨(-102), rfl, (by unfold fOddsM; grind), ht⟩) (fun q h => by cases h) dX6_odds_25

set_option maxHeartbeats 4000000 in
set_option maxRecDepth 100000 in
theorem c_X6_tower (l : Launch) (D : va_G) (cI cZ cA : ClassId) (sz : Nat) (mo : Nat) (apg : Nat) (P : Nat) (ea : Int32) (K : Nat) (Hn : Nat) (ym : Int32) (tm : Int32) (arw : Nat) (ans : Nat) (aro : Nat) (abo : Nat) (Sm : Nat) (asi : Nat) (sd : Int32) (asv : Nat) (kt : Int32) (ky : Int32) (ks : Nat) (akr : Nat) (akn : Nat) (aks : Nat) (ha : Int64) (pgf : Nat → Int32) (rw : Nat → Int32) (ns : Nat → Int32) (hP22 : P ≤ 22) : Met l yX6_tower wsX6_tower (zr 4) (va_Pc [.ref mo] (zPw D cI cZ cA [(mo, .inr (6, [.ref apg, .int (nI P), .int ea, .int (nI K), .int (nI Hn), .int ym, .int tm, .ref arw, .ref ans, .ref aro, .ref abo, .int (nI Sm), .ref asi, .int sd, .ref asv, .int kt, .int ky, .int (nI ks), .ref akr, .ref akn, .ref aks, .long ha])), (apg, .inl (cI, 22, .inl pgf)), (arw, .inl (cI, 15, .inl rw)), (ans, .inl (cI, 20, .inl ns))] sz)) (va_Qi (fun (r : Int32) (_ : Unit) => r = (fTowM pgf rw ns P K Hn ym tm Sm).1) (zB D [(mo, .inr (6, [.ref apg, .int (nI ((fTowM pgf rw ns P K Hn ym tm Sm).2.1)), .int ((fTowM pgf rw ns P K Hn ym tm Sm).2.2.1), .int (nI ((fTowM pgf rw ns P K Hn ym tm Sm).2.2.2.1)), .int (nI ((fTowM pgf rw ns P K Hn ym tm Sm).2.2.2.2.1)), .int ((fTowM pgf rw ns P K Hn ym tm Sm).2.2.2.2.2.1), .int ((fTowM pgf rw ns P K Hn ym tm Sm).2.2.2.2.2.2.1), .ref arw, .ref ans, .ref aro, .ref abo, .int (nI ((fTowM pgf rw ns P K Hn ym tm Sm).2.2.2.2.2.2.2.1)), .ref asi, .int sd, .ref asv, .int kt, .int ky, .int (nI ks), .ref akr, .ref akn, .ref aks, .long ha])), (apg, .inl (cI, 22, .inl pgf)), (arw, .inl (cI, 15, .inl ((fTowM pgf rw ns P K Hn ym tm Sm).2.2.2.2.2.2.2.2.1))), (ans, .inl (cI, 20, .inl ((fTowM pgf rw ns P K Hn ym tm Sm).2.2.2.2.2.2.2.2.2)))] (va_A [(mo, .inr (6, [.ref apg, .int (nI P), .int ea, .int (nI K), .int (nI Hn), .int ym, .int tm, .ref arw, .ref ans, .ref aro, .ref abo, .int (nI Sm), .ref asi, .int sd, .ref asv, .int kt, .int ky, .int (nI ks), .ref akr, .ref akn, .ref aks, .long ha])), (apg, .inl (cI, 22, .inl pgf)), (arw, .inl (cI, 15, .inl rw)), (ans, .inl (cI, 20, .inl ns))] sz)) (va_A [(mo, .inr (6, [.ref apg, .int (nI P), .int ea, .int (nI K), .int (nI Hn), .int ym, .int tm, .ref arw, .ref ans, .ref aro, .ref abo, .int (nI Sm), .ref asi, .int sd, .ref asv, .int kt, .int ky, .int (nI ks), .ref akr, .ref akn, .ref aks, .long ha])), (apg, .inl (cI, 22, .inl pgf)), (arw, .inl (cI, 15, .inl rw)), (ans, .inl (cI, 20, .inl ns))] sz)) 0 0 (va_A [(mo, .inr (6, [.ref apg, .int (nI P), .int ea, .int (nI K), .int (nI Hn), .int ym, .int tm, .ref arw, .ref ans, .ref aro, .ref abo, .int (nI Sm), .ref asi, .int sd, .ref asv, .int kt, .int ky, .int (nI ks), .ref akr, .ref akn, .ref aks, .long ha])), (apg, .inl (cI, 22, .inl pgf)), (arw, .inl (cI, 15, .inl rw)), (ans, .inl (cI, 20, .inl ns))] sz) := by
  refine Met.ofW (cc := cX6_tower) (maxL := 2) (ret := (some .int)) (by decide) rfl ?_
  intro p e s m args below meth c s₁ B hml hv
  obtain ⟨rfl, hsz, hP, hD0, hE⟩ := hv
  have hx := B.exec
  have hb := B.bytes
  have hr := B.returns
  have hts := atoms_spec (ws := wsX6_tower) B.pre
  have hown : s.vm.findClass RX6 = some m.cls := findClass_of_methodNamed B.named
  have hlocks := B.notSynchronized
  subst hsz
  have hD := hD0.self (sz := s.heap.size)
  generalize hAe : va_A [(mo, .inr (6, [.ref apg, .int (nI P), .int ea, .int (nI K), .int (nI Hn), .int ym, .int tm, .ref arw, .ref ans, .ref aro, .ref abo, .int (nI Sm), .ref asi, .int sd, .ref asv, .int kt, .int ky, .int (nI ks), .ref akr, .ref akn, .ref aks, .long ha])), (apg, .inl (cI, 22, .inl pgf)), (arw, .inl (cI, 15, .inl rw)), (ans, .inl (cI, 20, .inl ns))] s.heap.size = A at hD ⊢
  have hA : ∀ q : Nat, s.heap.size ≤ q → A q := fun q h => by rw [← hAe]; exact Or.inr h
  have hS : va_S A s.heap s.heap [] := va_S.rf
  have hP : va_P D vwCl [(mo, .inr (6, [.ref apg, .int (nI P), .int ea, .int (nI K), .int (nI Hn), .int ym, .int tm, .ref arw, .ref ans, .ref aro, .ref abo, .int (nI Sm), .ref asi, .int sd, .ref asv, .int kt, .int ky, .int (nI ks), .ref akr, .ref akn, .ref aks, .long ha])), (apg, .inl (cI, 22, .inl pgf)), (arw, .inl (cI, 15, .inl rw)), (ans, .inl (cI, 20, .inl ns))] s.heap := hP
  have hD : va_D A [(mo, .inr (6, [.ref apg, .int (nI P), .int ea, .int (nI K), .int (nI Hn), .int ym, .int tm, .ref arw, .ref ans, .ref aro, .ref abo, .int (nI Sm), .ref asi, .int sd, .ref asv, .int kt, .int ky, .int (nI ks), .ref akr, .ref akn, .ref aks, .long ha])), (apg, .inl (cI, 22, .inl pgf)), (arw, .inl (cI, 15, .inl rw)), (ans, .inl (cI, 20, .inl ns))] := hD
  have hl := lv_entry ([.ref mo]) (n := 2) (Nat.le_of_ble_eq_true rfl)
  rw [lg_entry_eq]
  generalize (lg_sl ([.ref mo]) ++ List.replicate (2 - (lg_sl ([.ref mo])).length) Slot.unset).toArray = ls at hl ⊢
  have hl : lv_has ls 2 [(0, .ref mo)] := hl
  have hinX6 : ∀ w ∈ wsX60, w ∈ wsX6_tower := fun w h => List.mem_cons_of_mem _ (List.mem_append_right _ h)
  have k_0 := hts (.fieldLink RX6 50 "VowDovesModel" "pageMany" "I") (by decide +kernel)
  have k_1 := hts (.fieldLink RX6 53 "VowDovesModel" "endAt" "I") (by decide +kernel)
  have k_2 := hts (.fieldLink RX6 72 "VowDovesModel" "keepers" "I") (by decide +kernel)
  have k_3 := hts (.fieldLink RX6 75 "VowDovesModel" "holes" "I") (by decide +kernel)
  have k_4 := hts (.fieldLink RX6 82 "VowDovesModel" "years" "I") (by decide +kernel)
  have k_5 := hts (.fieldLink RX6 85 "VowDovesModel" "seenMany" "I") (by decide +kernel)
  have k_6 := hts (.fieldLink RX6 88 "VowDovesModel" "towersRead" "I") (by decide +kernel)
  have k_7 := hts (.fieldLink RX6 16 "VowDovesModel" "nests" "[I") (by decide +kernel)
  have k_8 := hts (.fieldLink RX6 7 "VowDovesModel" "page" "[I") (by decide +kernel)
  have k_9 := hts (.fieldLink RX6 13 "VowDovesModel" "rows" "[I") (by decide +kernel)
  refine lv_aload_n hx hb dX6_tower_0 rfl (lv_at hl 0 rfl) ?_
  refine z_rwVi (As := []) (rest := []) (wr := [(arw, .inl (cI, 15, .inl rw)), (ans, .inl (cI, 20, .inl ns))]) (w1 := [(mo, .inr (6, [.ref apg, .int (nI P), .int ((scM pgf P).2), .int (nI K), .int (nI Hn), .int ym, .int tm, .ref arw, .ref ans, .ref aro, .ref abo, .int (nI Sm), .ref asi, .int sd, .ref asv, .int kt, .int ky, .int (nI ks), .ref akr, .ref akn, .ref aks, .long ha])), (apg, .inl (cI, 22, .inl pgf))]) ⟨hx, hb, hml, hown, hts⟩ (c_X6_faultOf l D cI cZ cA _ mo apg P ea K Hn ym tm arw ans aro abo Sm asi sd asv kt ky ks akr akn aks ha pgf (by first | assumption | omega)) (cwV 0 hts gX6_tower_X6_faultOf rfl rfl rfl (by decide +kernel) ⟨Nat.le_of_ble_eq_true rfl, Nat.le_of_ble_eq_true rfl⟩) hE hP hD hS hA [0, 1] [2, 3] rfl rfl rfl (by decide) (by decide) (by decide) 0 6 rfl rfl rfl hl.1 rfl (Nat.le_of_ble_eq_true rfl) dX6_tower_1 ⟨Nat.zero_le _, Nat.zero_le _⟩ (fun H locs hP hD hS => ?_)
  have hP : va_P D vwCl [(arw, .inl (cI, 15, .inl rw)), (ans, .inl (cI, 20, .inl ns)), (mo, .inr (6, [.ref apg, .int (nI P), .int ((scM pgf P).2), .int (nI K), .int (nI Hn), .int ym, .int tm, .ref arw, .ref ans, .ref aro, .ref abo, .int (nI Sm), .ref asi, .int sd, .ref asv, .int kt, .int ky, .int (nI ks), .ref akr, .ref akn, .ref aks, .long ha])), (apg, .inl (cI, 22, .inl pgf))] H := hP
  have hD : va_D A [(arw, .inl (cI, 15, .inl rw)), (ans, .inl (cI, 20, .inl ns)), (mo, .inr (6, [.ref apg, .int (nI P), .int ((scM pgf P).2), .int (nI K), .int (nI Hn), .int ym, .int tm, .ref arw, .ref ans, .ref aro, .ref abo, .int (nI Sm), .ref asi, .int sd, .ref asv, .int kt, .int ky, .int (nI ks), .ref akr, .ref akn, .ref aks, .long ha])), (apg, .inl (cI, 22, .inl pgf))] := hD
  refine lv_aload_n hx hb dX6_tower_4 rfl (lv_at hl 0 rfl) ?_
  refine va_get (D := D) (ci := 6) (v := .int (nI P)) (C := RX6) (T := TX6) (N := 22) hx hb hts hinX6 hown hE.1 hP 2 rfl rfl 1 (by decide) k_0 (fun _ h9 => h9) rfl dX6_tower_5 ?_
  have hsl0 := scM_le (pg := pgf) hP22
  refine lv_icmp_lt (tgt := 32) hx hb dX6_tower_8 (by decide) (fun c_8 => ?_) (fun c_8 => ?_)
  · have n_8 := zn_lt (a := (scM pgf P).1) (b := P) rfl rfl c_8 (by omega) (by omega)
    refine lv_bipush (v := (-103)) hx hb dX6_tower_32 (by decide) ?_
    have e9 : (fTowM pgf rw ns P K Hn ym tm Sm) = ((-103), P, (scM pgf P).2, K, Hn, ym, tm, Sm, rw, ns) := (fTowM_f (fun q => absurd q.1 (by omega)))
    have hP9 := hP.sub (ws' := [(mo, .inr (6, [.ref apg, .int (nI ((fTowM pgf rw ns P K Hn ym tm Sm).2.1)), .int ((fTowM pgf rw ns P K Hn ym tm Sm).2.2.1), .int (nI ((fTowM pgf rw ns P K Hn ym tm Sm).2.2.2.1)), .int (nI ((fTowM pgf rw ns P K Hn ym tm Sm).2.2.2.2.1)), .int ((fTowM pgf rw ns P K Hn ym tm Sm).2.2.2.2.2.1), .int ((fTowM pgf rw ns P K Hn ym tm Sm).2.2.2.2.2.2.1), .ref arw, .ref ans, .ref aro, .ref abo, .int (nI ((fTowM pgf rw ns P K Hn ym tm Sm).2.2.2.2.2.2.2.1)), .ref asi, .int sd, .ref asv, .int kt, .int ky, .int (nI ks), .ref akr, .ref akn, .ref aks, .long ha])), (apg, .inl (cI, 22, .inl pgf)), (arw, .inl (cI, 15, .inl ((fTowM pgf rw ns P K Hn ym tm Sm).2.2.2.2.2.2.2.2.1))), (ans, .inl (cI, 20, .inl ((fTowM pgf rw ns P K Hn ym tm Sm).2.2.2.2.2.2.2.2.2)))]) [2, 3, 0, 1] (by rw [e9]; try rfl)
    have hD9 := hD.sub (ws' := [(mo, .inr (6, [.ref apg, .int (nI ((fTowM pgf rw ns P K Hn ym tm Sm).2.1)), .int ((fTowM pgf rw ns P K Hn ym tm Sm).2.2.1), .int (nI ((fTowM pgf rw ns P K Hn ym tm Sm).2.2.2.1)), .int (nI ((fTowM pgf rw ns P K Hn ym tm Sm).2.2.2.2.1)), .int ((fTowM pgf rw ns P K Hn ym tm Sm).2.2.2.2.2.1), .int ((fTowM pgf rw ns P K Hn ym tm Sm).2.2.2.2.2.2.1), .ref arw, .ref ans, .ref aro, .ref abo, .int (nI ((fTowM pgf rw ns P K Hn ym tm Sm).2.2.2.2.2.2.2.1)), .ref asi, .int sd, .ref asv, .int kt, .int ky, .int (nI ks), .ref akr, .ref akn, .ref aks, .long ha])), (apg, .inl (cI, 22, .inl pgf)), (arw, .inl (cI, 15, .inl ((fTowM pgf rw ns P K Hn ym tm Sm).2.2.2.2.2.2.2.2.1))), (ans, .inl (cI, 20, .inl ((fTowM pgf rw ns P K Hn ym tm Sm).2.2.2.2.2.2.2.2.2)))]) [2, 3, 0, 1] (by decide) (by rw [e9]; try rfl)
    exact W.iret (v := (-103)) hx hb hr (fun t ht hW => ⟨⟨(-103), (), rfl, (by rw [e9]; try rfl), by rw [ht]; exact hP9, hD9⟩, hS.F ht⟩) hS.2.2 dX6_tower_34
  · have n_8 := zn_nlt (a := (scM pgf P).1) (b := P) rfl rfl c_8 (by omega) (by omega)
    have hsl := scM_le (pg := pgf) hP22
    refine lv_aload_n hx hb dX6_tower_11 rfl (lv_at hl 0 rfl) ?_
    refine va_get (D := D) (ci := 6) (v := .int ((scM pgf P).2)) (C := RX6) (T := TX6) (N := 22) hx hb hts hinX6 hown hE.1 hP 2 rfl rfl 2 (by decide) k_1 (fun _ h9 => h9) rfl dX6_tower_12 ?_
    refine lv_iconst (v := (-1)) hx hb dX6_tower_15 (by decide) ?_
    refine lv_icmp_eq (tgt := 32) hx hb dX6_tower_16 (by decide) (fun c_16 => ?_) (fun c_16 => ?_)
    · refine lv_bipush (v := (-103)) hx hb dX6_tower_32 (by decide) ?_
      have e9 : (fTowM pgf rw ns P K Hn ym tm Sm) = ((-103), P, (scM pgf P).2, K, Hn, ym, tm, Sm, rw, ns) := (fTowM_f (fun q => q.2.1 c_16))
      have hP9 := hP.sub (ws' := [(mo, .inr (6, [.ref apg, .int (nI ((fTowM pgf rw ns P K Hn ym tm Sm).2.1)), .int ((fTowM pgf rw ns P K Hn ym tm Sm).2.2.1), .int (nI ((fTowM pgf rw ns P K Hn ym tm Sm).2.2.2.1)), .int (nI ((fTowM pgf rw ns P K Hn ym tm Sm).2.2.2.2.1)), .int ((fTowM pgf rw ns P K Hn ym tm Sm).2.2.2.2.2.1), .int ((fTowM pgf rw ns P K Hn ym tm Sm).2.2.2.2.2.2.1), .ref arw, .ref ans, .ref aro, .ref abo, .int (nI ((fTowM pgf rw ns P K Hn ym tm Sm).2.2.2.2.2.2.2.1)), .ref asi, .int sd, .ref asv, .int kt, .int ky, .int (nI ks), .ref akr, .ref akn, .ref aks, .long ha])), (apg, .inl (cI, 22, .inl pgf)), (arw, .inl (cI, 15, .inl ((fTowM pgf rw ns P K Hn ym tm Sm).2.2.2.2.2.2.2.2.1))), (ans, .inl (cI, 20, .inl ((fTowM pgf rw ns P K Hn ym tm Sm).2.2.2.2.2.2.2.2.2)))]) [2, 3, 0, 1] (by rw [e9]; try rfl)
      have hD9 := hD.sub (ws' := [(mo, .inr (6, [.ref apg, .int (nI ((fTowM pgf rw ns P K Hn ym tm Sm).2.1)), .int ((fTowM pgf rw ns P K Hn ym tm Sm).2.2.1), .int (nI ((fTowM pgf rw ns P K Hn ym tm Sm).2.2.2.1)), .int (nI ((fTowM pgf rw ns P K Hn ym tm Sm).2.2.2.2.1)), .int ((fTowM pgf rw ns P K Hn ym tm Sm).2.2.2.2.2.1), .int ((fTowM pgf rw ns P K Hn ym tm Sm).2.2.2.2.2.2.1), .ref arw, .ref ans, .ref aro, .ref abo, .int (nI ((fTowM pgf rw ns P K Hn ym tm Sm).2.2.2.2.2.2.2.1)), .ref asi, .int sd, .ref asv, .int kt, .int ky, .int (nI ks), .ref akr, .ref akn, .ref aks, .long ha])), (apg, .inl (cI, 22, .inl pgf)), (arw, .inl (cI, 15, .inl ((fTowM pgf rw ns P K Hn ym tm Sm).2.2.2.2.2.2.2.2.1))), (ans, .inl (cI, 20, .inl ((fTowM pgf rw ns P K Hn ym tm Sm).2.2.2.2.2.2.2.2.2)))]) [2, 3, 0, 1] (by decide) (by rw [e9]; try rfl)
      exact W.iret (v := (-103)) hx hb hr (fun t ht hW => ⟨⟨(-103), (), rfl, (by rw [e9]; try rfl), by rw [ht]; exact hP9, hD9⟩, hS.F ht⟩) hS.2.2 dX6_tower_34
    · refine lv_aload_n hx hb dX6_tower_19 rfl (lv_at hl 0 rfl) ?_
      refine va_get (D := D) (ci := 6) (v := .int (nI P)) (C := RX6) (T := TX6) (N := 22) hx hb hts hinX6 hown hE.1 hP 2 rfl rfl 1 (by decide) k_0 (fun _ h9 => h9) rfl dX6_tower_20 ?_
      refine lv_aload_n hx hb dX6_tower_23 rfl (lv_at hl 0 rfl) ?_
      refine va_get (D := D) (ci := 6) (v := .int ((scM pgf P).2)) (C := RX6) (T := TX6) (N := 22) hx hb hts hinX6 hown hE.1 hP 2 rfl rfl 2 (by decide) k_1 (fun _ h9 => h9) rfl dX6_tower_24 ?_
      refine lv_isub hx hb dX6_tower_27 ?_
      refine lv_iconst (v := 3) hx hb dX6_tower_28 (by decide) ?_
      refine lv_icmp_ge (tgt := 35) hx hb dX6_tower_29 (by decide) (fun c_29 => ?_) (fun c_29 => ?_)
      · obtain ⟨E, eE, hE3, hE5, hE14, hEP, hPE⟩ := scM_ok hP22 n_8 c_16
        refine lv_aload_n hx hb dX6_tower_35 rfl (lv_at hl 0 rfl) ?_
        refine lv_aload_n hx hb dX6_tower_36 rfl (lv_at hl 0 rfl) ?_
        refine va_get (D := D) (ci := 6) (v := .int ((scM pgf P).2)) (C := RX6) (T := TX6) (N := 22) hx hb hts hinX6 hown hE.1 hP 2 rfl rfl 2 (by decide) k_1 (fun _ h9 => h9) rfl dX6_tower_37 ?_
        refine lv_iconst (v := 1) hx hb dX6_tower_40 (by decide) ?_
        refine z_iaddN hx hb (a := E) (b := 1) eE rfl dX6_tower_41 ?_
        refine lv_iconst (v := 3) hx hb dX6_tower_42 (by decide) ?_
        refine z_idivN hx hb (a := E + 1) (b := 3) rfl rfl (by omega) (by omega) (by omega) dX6_tower_43 ?_
        refine va_put (D := D) (ci := 6) (v := .int (nI ((E + 1) / 3))) (ty := .int) (C := RX6) (T := TX6) (N := 22) hx hb hts hinX6 tyX6 tyX6_ok nmX6 hown hE.1 hP hD hS 2 rfl rfl 3 (by decide) k_2 (fun _ h9 => h9) rfl (by decide +kernel) rfl rfl (Nat.le_of_ble_eq_true rfl) dX6_tower_44 (fun H locs hP hD hS => ?_)
        have hP : va_P D vwCl [(arw, .inl (cI, 15, .inl rw)), (ans, .inl (cI, 20, .inl ns)), (mo, .inr (6, [.ref apg, .int (nI P), .int ((scM pgf P).2), .int (nI ((E + 1) / 3)), .int (nI Hn), .int ym, .int tm, .ref arw, .ref ans, .ref aro, .ref abo, .int (nI Sm), .ref asi, .int sd, .ref asv, .int kt, .int ky, .int (nI ks), .ref akr, .ref akn, .ref aks, .long ha])), (apg, .inl (cI, 22, .inl pgf))] H := hP
        have hD : va_D A [(arw, .inl (cI, 15, .inl rw)), (ans, .inl (cI, 20, .inl ns)), (mo, .inr (6, [.ref apg, .int (nI P), .int ((scM pgf P).2), .int (nI ((E + 1) / 3)), .int (nI Hn), .int ym, .int tm, .ref arw, .ref ans, .ref aro, .ref abo, .int (nI Sm), .ref asi, .int sd, .ref asv, .int kt, .int ky, .int (nI ks), .ref akr, .ref akn, .ref aks, .long ha])), (apg, .inl (cI, 22, .inl pgf))] := hD
        refine lv_iconst (v := 0) hx hb dX6_tower_47 (by decide) ?_
        refine lv_istore_n (lv' := [(1, .int 0), (0, .ref mo)]) hx hb dX6_tower_48 rfl hl (by decide) rfl (fun ls hl => ?_)
        have hc49_1 : ∀ (n : Nat) (i : Nat), (i ≤ (E + 1) / 3) → ((E + 1) / 3 + 1 ≤ i + n) → ∀ (w1 : Int32), w1 = nI i → ∀ (wr : Nat → Int32), wr = towR pgf rw i → ∀ (H : Heap) (locs : List Loc), va_P D vwCl [(arw, .inl (cI, 15, .inl wr)), (ans, .inl (cI, 20, .inl ns)), (mo, .inr (6, [.ref apg, .int (nI P), .int ((scM pgf P).2), .int (nI ((E + 1) / 3)), .int (nI Hn), .int ym, .int tm, .ref arw, .ref ans, .ref aro, .ref abo, .int (nI Sm), .ref asi, .int sd, .ref asv, .int kt, .int ky, .int (nI ks), .ref akr, .ref akn, .ref aks, .long ha])), (apg, .inl (cI, 22, .inl pgf))] H → va_D A [(arw, .inl (cI, 15, .inl wr)), (ans, .inl (cI, 20, .inl ns)), (mo, .inr (6, [.ref apg, .int (nI P), .int ((scM pgf P).2), .int (nI ((E + 1) / 3)), .int (nI Hn), .int ym, .int tm, .ref arw, .ref ans, .ref aro, .ref abo, .int (nI Sm), .ref asi, .int sd, .ref asv, .int kt, .int ky, .int (nI ks), .ref akr, .ref akn, .ref aks, .long ha])), (apg, .inl (cI, 22, .inl pgf))] → va_S A s.heap H locs → ∀ (ls : Array Slot), lv_has ls 2 [(1, .int w1), (0, .ref mo)] → W p l e (headSpec wsX6_tower (zr 4)).room s m ([.ref mo] : List Value).toArray below meth c H locs 0 0 (MQ below (va_Qi (fun (r : Int32) (_ : Unit) => r = (fTowM pgf rw ns P K Hn ym tm Sm).1) (zB D [(mo, .inr (6, [.ref apg, .int (nI ((fTowM pgf rw ns P K Hn ym tm Sm).2.1)), .int ((fTowM pgf rw ns P K Hn ym tm Sm).2.2.1), .int (nI ((fTowM pgf rw ns P K Hn ym tm Sm).2.2.2.1)), .int (nI ((fTowM pgf rw ns P K Hn ym tm Sm).2.2.2.2.1)), .int ((fTowM pgf rw ns P K Hn ym tm Sm).2.2.2.2.2.1), .int ((fTowM pgf rw ns P K Hn ym tm Sm).2.2.2.2.2.2.1), .ref arw, .ref ans, .ref aro, .ref abo, .int (nI ((fTowM pgf rw ns P K Hn ym tm Sm).2.2.2.2.2.2.2.1)), .ref asi, .int sd, .ref asv, .int kt, .int ky, .int (nI ks), .ref akr, .ref akn, .ref aks, .long ha])), (apg, .inl (cI, 22, .inl pgf)), (arw, .inl (cI, 15, .inl ((fTowM pgf rw ns P K Hn ym tm Sm).2.2.2.2.2.2.2.2.1))), (ans, .inl (cI, 20, .inl ((fTowM pgf rw ns P K Hn ym tm Sm).2.2.2.2.2.2.2.2.2)))] A) A) ([.ref mo] : List Value).toArray s 0 0 A) (F0 m 49 ls []) := by
          intro n
          induction n with
          | zero => intro i hi hfu; exact absurd hfu (by omega)
          | succ n ihhc49_1 =>
            intro i hi hfu w1 ew1 wr ewr H locs hP hD hS ls hl
            subst ew1
            subst ewr
            refine lv_iload_n hx hb dX6_tower_49 rfl (lv_at hl 0 rfl) ?_
            refine lv_aload_n hx hb dX6_tower_50 rfl (lv_at hl 1 rfl) ?_
            refine va_get (D := D) (ci := 6) (v := .int (nI ((E + 1) / 3))) (C := RX6) (T := TX6) (N := 22) hx hb hts hinX6 hown hE.1 hP 2 rfl rfl 3 (by decide) k_2 (fun _ h9 => h9) rfl dX6_tower_51 ?_
            refine lv_icmp_ge (tgt := 116) hx hb dX6_tower_54 (by decide) (fun c_54 => ?_) (fun c_54 => ?_)
            · have n_54 := zn_le (a := (E + 1) / 3) (b := i) rfl rfl c_54 (by omega) (by omega)
              obtain rfl : (E + 1) / 3 = i := by omega
              refine lv_aload_n hx hb dX6_tower_116 rfl (lv_at hl 1 rfl) ?_
              refine lv_aload_n hx hb dX6_tower_117 rfl (lv_at hl 1 rfl) ?_
              refine va_get (D := D) (ci := 6) (v := .int (nI P)) (C := RX6) (T := TX6) (N := 22) hx hb hts hinX6 hown hE.1 hP 2 rfl rfl 1 (by decide) k_0 (fun _ h9 => h9) rfl dX6_tower_118 ?_
              refine lv_aload_n hx hb dX6_tower_121 rfl (lv_at hl 1 rfl) ?_
              refine va_get (D := D) (ci := 6) (v := .int ((scM pgf P).2)) (C := RX6) (T := TX6) (N := 22) hx hb hts hinX6 hown hE.1 hP 2 rfl rfl 2 (by decide) k_1 (fun _ h9 => h9) rfl dX6_tower_122 ?_
              refine z_isubN hx hb (a := P) (b := E) rfl eE (by omega) dX6_tower_125 ?_
              refine lv_iconst (v := 1) hx hb dX6_tower_126 (by decide) ?_
              refine z_isubN hx hb (a := P - E) (b := 1) rfl rfl (by omega) dX6_tower_127 ?_
              refine va_put (D := D) (ci := 6) (v := .int (nI ((P - E) - 1))) (ty := .int) (C := RX6) (T := TX6) (N := 22) hx hb hts hinX6 tyX6 tyX6_ok nmX6 hown hE.1 hP hD hS 2 rfl rfl 4 (by decide) k_3 (fun _ h9 => h9) rfl (by decide +kernel) rfl rfl (Nat.le_of_ble_eq_true rfl) dX6_tower_128 (fun H locs hP hD hS => ?_)
              have hP : va_P D vwCl [(arw, .inl (cI, 15, .inl (towR pgf rw ((E + 1) / 3)))), (ans, .inl (cI, 20, .inl ns)), (mo, .inr (6, [.ref apg, .int (nI P), .int ((scM pgf P).2), .int (nI ((E + 1) / 3)), .int (nI ((P - E) - 1)), .int ym, .int tm, .ref arw, .ref ans, .ref aro, .ref abo, .int (nI Sm), .ref asi, .int sd, .ref asv, .int kt, .int ky, .int (nI ks), .ref akr, .ref akn, .ref aks, .long ha])), (apg, .inl (cI, 22, .inl pgf))] H := hP
              have hD : va_D A [(arw, .inl (cI, 15, .inl (towR pgf rw ((E + 1) / 3)))), (ans, .inl (cI, 20, .inl ns)), (mo, .inr (6, [.ref apg, .int (nI P), .int ((scM pgf P).2), .int (nI ((E + 1) / 3)), .int (nI ((P - E) - 1)), .int ym, .int tm, .ref arw, .ref ans, .ref aro, .ref abo, .int (nI Sm), .ref asi, .int sd, .ref asv, .int kt, .int ky, .int (nI ks), .ref akr, .ref akn, .ref aks, .long ha])), (apg, .inl (cI, 22, .inl pgf))] := hD
              refine lv_iconst (v := 0) hx hb dX6_tower_131 (by decide) ?_
              refine lv_istore_n (lv' := [(1, .int 0), (0, .ref mo)]) hx hb dX6_tower_132 rfl hl (by decide) rfl (fun ls hl => ?_)
              have hc133_2 : ∀ (n : Nat) (i : Nat), (i ≤ P - E - 1) → (P - E - 1 + 1 ≤ i + n) → ∀ (w1 : Int32), w1 = nI i → ∀ (wn : Nat → Int32), wn = towN pgf E ns i → ∀ (H : Heap) (locs : List Loc), va_P D vwCl [(arw, .inl (cI, 15, .inl (towR pgf rw ((E + 1) / 3)))), (ans, .inl (cI, 20, .inl wn)), (mo, .inr (6, [.ref apg, .int (nI P), .int ((scM pgf P).2), .int (nI ((E + 1) / 3)), .int (nI ((P - E) - 1)), .int ym, .int tm, .ref arw, .ref ans, .ref aro, .ref abo, .int (nI Sm), .ref asi, .int sd, .ref asv, .int kt, .int ky, .int (nI ks), .ref akr, .ref akn, .ref aks, .long ha])), (apg, .inl (cI, 22, .inl pgf))] H → va_D A [(arw, .inl (cI, 15, .inl (towR pgf rw ((E + 1) / 3)))), (ans, .inl (cI, 20, .inl wn)), (mo, .inr (6, [.ref apg, .int (nI P), .int ((scM pgf P).2), .int (nI ((E + 1) / 3)), .int (nI ((P - E) - 1)), .int ym, .int tm, .ref arw, .ref ans, .ref aro, .ref abo, .int (nI Sm), .ref asi, .int sd, .ref asv, .int kt, .int ky, .int (nI ks), .ref akr, .ref akn, .ref aks, .long ha])), (apg, .inl (cI, 22, .inl pgf))] → va_S A s.heap H locs → ∀ (ls : Array Slot), lv_has ls 2 [(1, .int w1), (0, .ref mo)] → W p l e (headSpec wsX6_tower (zr 4)).room s m ([.ref mo] : List Value).toArray below meth c H locs 0 0 (MQ below (va_Qi (fun (r : Int32) (_ : Unit) => r = (fTowM pgf rw ns P K Hn ym tm Sm).1) (zB D [(mo, .inr (6, [.ref apg, .int (nI ((fTowM pgf rw ns P K Hn ym tm Sm).2.1)), .int ((fTowM pgf rw ns P K Hn ym tm Sm).2.2.1), .int (nI ((fTowM pgf rw ns P K Hn ym tm Sm).2.2.2.1)), .int (nI ((fTowM pgf rw ns P K Hn ym tm Sm).2.2.2.2.1)), .int ((fTowM pgf rw ns P K Hn ym tm Sm).2.2.2.2.2.1), .int ((fTowM pgf rw ns P K Hn ym tm Sm).2.2.2.2.2.2.1), .ref arw, .ref ans, .ref aro, .ref abo, .int (nI ((fTowM pgf rw ns P K Hn ym tm Sm).2.2.2.2.2.2.2.1)), .ref asi, .int sd, .ref asv, .int kt, .int ky, .int (nI ks), .ref akr, .ref akn, .ref aks, .long ha])), (apg, .inl (cI, 22, .inl pgf)), (arw, .inl (cI, 15, .inl ((fTowM pgf rw ns P K Hn ym tm Sm).2.2.2.2.2.2.2.2.1))), (ans, .inl (cI, 20, .inl ((fTowM pgf rw ns P K Hn ym tm Sm).2.2.2.2.2.2.2.2.2)))] A) A) ([.ref mo] : List Value).toArray s 0 0 A) (F0 m 133 ls []) := by
                intro n
                induction n with
                | zero => intro i hi hfu; exact absurd hfu (by omega)
                | succ n ihhc133_2 =>
                  intro i hi hfu w1 ew1 wn ewn H locs hP hD hS ls hl
                  subst ew1
                  subst ewn
                  refine lv_iload_n hx hb dX6_tower_133 rfl (lv_at hl 0 rfl) ?_
                  refine lv_aload_n hx hb dX6_tower_134 rfl (lv_at hl 1 rfl) ?_
                  refine va_get (D := D) (ci := 6) (v := .int (nI ((P - E) - 1))) (C := RX6) (T := TX6) (N := 22) hx hb hts hinX6 hown hE.1 hP 2 rfl rfl 4 (by decide) k_3 (fun _ h9 => h9) rfl dX6_tower_135 ?_
                  refine lv_icmp_ge (tgt := 176) hx hb dX6_tower_138 (by decide) (fun c_138 => ?_) (fun c_138 => ?_)
                  · have n_138 := zn_le (a := (P - E) - 1) (b := i) rfl rfl c_138 (by omega) (by omega)
                    obtain rfl : P - E - 1 = i := by omega
                    refine lv_aload_n hx hb dX6_tower_176 rfl (lv_at hl 1 rfl) ?_
                    refine lv_iconst (v := 0) hx hb dX6_tower_177 (by decide) ?_
                    refine va_put (D := D) (ci := 6) (v := .int 0) (ty := .int) (C := RX6) (T := TX6) (N := 22) hx hb hts hinX6 tyX6 tyX6_ok nmX6 hown hE.1 hP hD hS 2 rfl rfl 5 (by decide) k_4 (fun _ h9 => h9) rfl (by decide +kernel) rfl rfl (Nat.le_of_ble_eq_true rfl) dX6_tower_178 (fun H locs hP hD hS => ?_)
                    have hP : va_P D vwCl [(arw, .inl (cI, 15, .inl (towR pgf rw ((E + 1) / 3)))), (ans, .inl (cI, 20, .inl (towN pgf E ns (P - E - 1)))), (mo, .inr (6, [.ref apg, .int (nI P), .int ((scM pgf P).2), .int (nI ((E + 1) / 3)), .int (nI ((P - E) - 1)), .int 0, .int tm, .ref arw, .ref ans, .ref aro, .ref abo, .int (nI Sm), .ref asi, .int sd, .ref asv, .int kt, .int ky, .int (nI ks), .ref akr, .ref akn, .ref aks, .long ha])), (apg, .inl (cI, 22, .inl pgf))] H := hP
                    have hD : va_D A [(arw, .inl (cI, 15, .inl (towR pgf rw ((E + 1) / 3)))), (ans, .inl (cI, 20, .inl (towN pgf E ns (P - E - 1)))), (mo, .inr (6, [.ref apg, .int (nI P), .int ((scM pgf P).2), .int (nI ((E + 1) / 3)), .int (nI ((P - E) - 1)), .int 0, .int tm, .ref arw, .ref ans, .ref aro, .ref abo, .int (nI Sm), .ref asi, .int sd, .ref asv, .int kt, .int ky, .int (nI ks), .ref akr, .ref akn, .ref aks, .long ha])), (apg, .inl (cI, 22, .inl pgf))] := hD
                    refine lv_aload_n hx hb dX6_tower_181 rfl (lv_at hl 1 rfl) ?_
                    refine lv_iconst (v := 0) hx hb dX6_tower_182 (by decide) ?_
                    refine va_put (D := D) (ci := 6) (v := .int 0) (ty := .int) (C := RX6) (T := TX6) (N := 22) hx hb hts hinX6 tyX6 tyX6_ok nmX6 hown hE.1 hP hD hS 2 rfl rfl 11 (by decide) k_5 (fun _ h9 => h9) rfl (by decide +kernel) rfl rfl (Nat.le_of_ble_eq_true rfl) dX6_tower_183 (fun H locs hP hD hS => ?_)
                    have hP : va_P D vwCl [(arw, .inl (cI, 15, .inl (towR pgf rw ((E + 1) / 3)))), (ans, .inl (cI, 20, .inl (towN pgf E ns (P - E - 1)))), (mo, .inr (6, [.ref apg, .int (nI P), .int ((scM pgf P).2), .int (nI ((E + 1) / 3)), .int (nI ((P - E) - 1)), .int 0, .int tm, .ref arw, .ref ans, .ref aro, .ref abo, .int 0, .ref asi, .int sd, .ref asv, .int kt, .int ky, .int (nI ks), .ref akr, .ref akn, .ref aks, .long ha])), (apg, .inl (cI, 22, .inl pgf))] H := hP
                    have hD : va_D A [(arw, .inl (cI, 15, .inl (towR pgf rw ((E + 1) / 3)))), (ans, .inl (cI, 20, .inl (towN pgf E ns (P - E - 1)))), (mo, .inr (6, [.ref apg, .int (nI P), .int ((scM pgf P).2), .int (nI ((E + 1) / 3)), .int (nI ((P - E) - 1)), .int 0, .int tm, .ref arw, .ref ans, .ref aro, .ref abo, .int 0, .ref asi, .int sd, .ref asv, .int kt, .int ky, .int (nI ks), .ref akr, .ref akn, .ref aks, .long ha])), (apg, .inl (cI, 22, .inl pgf))] := hD
                    refine lv_aload_n hx hb dX6_tower_186 rfl (lv_at hl 1 rfl) ?_
                    refine lv_dup hx hb dX6_tower_187 rfl ?_
                    refine va_get (D := D) (ci := 6) (v := .int tm) (C := RX6) (T := TX6) (N := 22) hx hb hts hinX6 hown hE.1 hP 2 rfl rfl 6 (by decide) k_6 (fun _ h9 => h9) rfl dX6_tower_188 ?_
                    refine lv_iconst (v := 1) hx hb dX6_tower_191 (by decide) ?_
                    refine lv_iadd hx hb dX6_tower_192 ?_
                    refine va_put (D := D) (ci := 6) (v := .int (tm + 1)) (ty := .int) (C := RX6) (T := TX6) (N := 22) hx hb hts hinX6 tyX6 tyX6_ok nmX6 hown hE.1 hP hD hS 2 rfl rfl 6 (by decide) k_6 (fun _ h9 => h9) rfl (by decide +kernel) rfl rfl (Nat.le_of_ble_eq_true rfl) dX6_tower_193 (fun H locs hP hD hS => ?_)
                    have hP : va_P D vwCl [(arw, .inl (cI, 15, .inl (towR pgf rw ((E + 1) / 3)))), (ans, .inl (cI, 20, .inl (towN pgf E ns (P - E - 1)))), (mo, .inr (6, [.ref apg, .int (nI P), .int ((scM pgf P).2), .int (nI ((E + 1) / 3)), .int (nI ((P - E) - 1)), .int 0, .int (tm + 1), .ref arw, .ref ans, .ref aro, .ref abo, .int 0, .ref asi, .int sd, .ref asv, .int kt, .int ky, .int (nI ks), .ref akr, .ref akn, .ref aks, .long ha])), (apg, .inl (cI, 22, .inl pgf))] H := hP
                    have hD : va_D A [(arw, .inl (cI, 15, .inl (towR pgf rw ((E + 1) / 3)))), (ans, .inl (cI, 20, .inl (towN pgf E ns (P - E - 1)))), (mo, .inr (6, [.ref apg, .int (nI P), .int ((scM pgf P).2), .int (nI ((E + 1) / 3)), .int (nI ((P - E) - 1)), .int 0, .int (tm + 1), .ref arw, .ref ans, .ref aro, .ref abo, .int 0, .ref asi, .int sd, .ref asv, .int kt, .int ky, .int (nI ks), .ref akr, .ref akn, .ref aks, .long ha])), (apg, .inl (cI, 22, .inl pgf))] := hD
                    refine lv_aload_n hx hb dX6_tower_196 rfl (lv_at hl 1 rfl) ?_
                    refine lv_iconst (v := 0) hx hb dX6_tower_197 (by decide) ?_
                    refine va_put (D := D) (ci := 6) (v := .int 0) (ty := .int) (C := RX6) (T := TX6) (N := 22) hx hb hts hinX6 tyX6 tyX6_ok nmX6 hown hE.1 hP hD hS 2 rfl rfl 1 (by decide) k_0 (fun _ h9 => h9) rfl (by decide +kernel) rfl rfl (Nat.le_of_ble_eq_true rfl) dX6_tower_198 (fun H locs hP hD hS => ?_)
                    have hP : va_P D vwCl [(arw, .inl (cI, 15, .inl (towR pgf rw ((E + 1) / 3)))), (ans, .inl (cI, 20, .inl (towN pgf E ns (P - E - 1)))), (mo, .inr (6, [.ref apg, .int 0, .int ((scM pgf P).2), .int (nI ((E + 1) / 3)), .int (nI ((P - E) - 1)), .int 0, .int (tm + 1), .ref arw, .ref ans, .ref aro, .ref abo, .int 0, .ref asi, .int sd, .ref asv, .int kt, .int ky, .int (nI ks), .ref akr, .ref akn, .ref aks, .long ha])), (apg, .inl (cI, 22, .inl pgf))] H := hP
                    have hD : va_D A [(arw, .inl (cI, 15, .inl (towR pgf rw ((E + 1) / 3)))), (ans, .inl (cI, 20, .inl (towN pgf E ns (P - E - 1)))), (mo, .inr (6, [.ref apg, .int 0, .int ((scM pgf P).2), .int (nI ((E + 1) / 3)), .int (nI ((P - E) - 1)), .int 0, .int (tm + 1), .ref arw, .ref ans, .ref aro, .ref abo, .int 0, .ref asi, .int sd, .ref asv, .int kt, .int ky, .int (nI ks), .ref akr, .ref akn, .ref aks, .long ha])), (apg, .inl (cI, 22, .inl pgf))] := hD
                    refine lv_aload_n hx hb dX6_tower_201 rfl (lv_at hl 1 rfl) ?_
                    refine va_get (D := D) (ci := 6) (v := .int (nI ((P - E) - 1))) (C := RX6) (T := TX6) (N := 22) hx hb hts hinX6 hown hE.1 hP 2 rfl rfl 4 (by decide) k_3 (fun _ h9 => h9) rfl dX6_tower_202 ?_
                    have e9 : (fTowM pgf rw ns P K Hn ym tm Sm) = (nI ((P - E) - 1), 0, (scM pgf P).2, (E + 1) / 3, (P - E) - 1, 0, tm + 1, 0, towR pgf rw ((E + 1) / 3), towN pgf E ns (P - E - 1)) := (by rw [fTowM_t ⟨n_8, c_16, c_29⟩ eE (by omega), eE])
                    have hP9 := hP.sub (ws' := [(mo, .inr (6, [.ref apg, .int (nI ((fTowM pgf rw ns P K Hn ym tm Sm).2.1)), .int ((fTowM pgf rw ns P K Hn ym tm Sm).2.2.1), .int (nI ((fTowM pgf rw ns P K Hn ym tm Sm).2.2.2.1)), .int (nI ((fTowM pgf rw ns P K Hn ym tm Sm).2.2.2.2.1)), .int ((fTowM pgf rw ns P K Hn ym tm Sm).2.2.2.2.2.1), .int ((fTowM pgf rw ns P K Hn ym tm Sm).2.2.2.2.2.2.1), .ref arw, .ref ans, .ref aro, .ref abo, .int (nI ((fTowM pgf rw ns P K Hn ym tm Sm).2.2.2.2.2.2.2.1)), .ref asi, .int sd, .ref asv, .int kt, .int ky, .int (nI ks), .ref akr, .ref akn, .ref aks, .long ha])), (apg, .inl (cI, 22, .inl pgf)), (arw, .inl (cI, 15, .inl ((fTowM pgf rw ns P K Hn ym tm Sm).2.2.2.2.2.2.2.2.1))), (ans, .inl (cI, 20, .inl ((fTowM pgf rw ns P K Hn ym tm Sm).2.2.2.2.2.2.2.2.2)))]) [2, 3, 0, 1] (by rw [e9]; try rfl)
                    have hD9 := hD.sub (ws' := [(mo, .inr (6, [.ref apg, .int (nI ((fTowM pgf rw ns P K Hn ym tm Sm).2.1)), .int ((fTowM pgf rw ns P K Hn ym tm Sm).2.2.1), .int (nI ((fTowM pgf rw ns P K Hn ym tm Sm).2.2.2.1)), .int (nI ((fTowM pgf rw ns P K Hn ym tm Sm).2.2.2.2.1)), .int ((fTowM pgf rw ns P K Hn ym tm Sm).2.2.2.2.2.1), .int ((fTowM pgf rw ns P K Hn ym tm Sm).2.2.2.2.2.2.1), .ref arw, .ref ans, .ref aro, .ref abo, .int (nI ((fTowM pgf rw ns P K Hn ym tm Sm).2.2.2.2.2.2.2.1)), .ref asi, .int sd, .ref asv, .int kt, .int ky, .int (nI ks), .ref akr, .ref akn, .ref aks, .long ha])), (apg, .inl (cI, 22, .inl pgf)), (arw, .inl (cI, 15, .inl ((fTowM pgf rw ns P K Hn ym tm Sm).2.2.2.2.2.2.2.2.1))), (ans, .inl (cI, 20, .inl ((fTowM pgf rw ns P K Hn ym tm Sm).2.2.2.2.2.2.2.2.2)))]) [2, 3, 0, 1] (by decide) (by rw [e9]; try rfl)
                    exact W.iret (v := nI ((P - E) - 1)) hx hb hr (fun t ht hW => ⟨⟨(nI ((P - E) - 1)), (), rfl, (by rw [e9]; try rfl), by rw [ht]; exact hP9, hD9⟩, hS.F ht⟩) hS.2.2 dX6_tower_205
                  · have n_138 := zn_nle (a := (P - E) - 1) (b := i) rfl rfl c_138 (by omega) (by omega)
                    refine lv_aload_n hx hb dX6_tower_141 rfl (lv_at hl 1 rfl) ?_
                    refine va_get (D := D) (ci := 6) (v := .ref ans) (C := RX6) (T := TX6) (N := 22) hx hb hts hinX6 hown hE.1 hP 2 rfl rfl 8 (by decide) k_7 (fun _ h9 => h9) rfl dX6_tower_142 ?_
                    refine lv_iconst (v := 4) hx hb dX6_tower_145 (by decide) ?_
                    refine lv_iload_n hx hb dX6_tower_146 rfl (lv_at hl 0 rfl) ?_
                    refine z_imulN hx hb (a := 4) (b := i) rfl rfl dX6_tower_147 ?_
                    refine lv_aload_n hx hb dX6_tower_148 rfl (lv_at hl 1 rfl) ?_
                    refine va_get (D := D) (ci := 6) (v := .ref apg) (C := RX6) (T := TX6) (N := 22) hx hb hts hinX6 hown hE.1 hP 2 rfl rfl 0 (by decide) k_8 (fun _ h9 => h9) rfl dX6_tower_149 ?_
                    refine lv_aload_n hx hb dX6_tower_152 rfl (lv_at hl 1 rfl) ?_
                    refine va_get (D := D) (ci := 6) (v := .int ((scM pgf P).2)) (C := RX6) (T := TX6) (N := 22) hx hb hts hinX6 hown hE.1 hP 2 rfl rfl 2 (by decide) k_1 (fun _ h9 => h9) rfl dX6_tower_153 ?_
                    refine lv_iconst (v := 1) hx hb dX6_tower_156 (by decide) ?_
                    refine z_iaddN hx hb (a := E) (b := 1) eE rfl dX6_tower_157 ?_
                    refine lv_iload_n hx hb dX6_tower_158 rfl (lv_at hl 0 rfl) ?_
                    refine z_iaddN hx hb (a := E + 1) (b := i) rfl rfl dX6_tower_159 ?_
                    refine z_iald hx hb hE hP 3 rfl (j := (E + 1) + i) rfl (by omega) (by decide) dX6_tower_160 ?_
                    refine lv_bipush (v := 48) hx hb dX6_tower_161 (by decide) ?_
                    refine lv_isub hx hb dX6_tower_163 ?_
                    refine z_iast hx hb hE hP hD hS 1 rfl (j := 4 * i) rfl (by omega) (by decide) dX6_tower_164 (fun H locs hP hD hS => ?_)
                    have hP : va_P D vwCl [(arw, .inl (cI, 15, .inl (towR pgf rw ((E + 1) / 3)))), (ans, .inl (cI, 20, .inl (upd (towN pgf E ns i) (4 * i) ((pgf ((E + 1) + i)) - 48)))), (mo, .inr (6, [.ref apg, .int (nI P), .int ((scM pgf P).2), .int (nI ((E + 1) / 3)), .int (nI ((P - E) - 1)), .int ym, .int tm, .ref arw, .ref ans, .ref aro, .ref abo, .int (nI Sm), .ref asi, .int sd, .ref asv, .int kt, .int ky, .int (nI ks), .ref akr, .ref akn, .ref aks, .long ha])), (apg, .inl (cI, 22, .inl pgf))] H := hP
                    have hD : va_D A [(arw, .inl (cI, 15, .inl (towR pgf rw ((E + 1) / 3)))), (ans, .inl (cI, 20, .inl (upd (towN pgf E ns i) (4 * i) ((pgf ((E + 1) + i)) - 48)))), (mo, .inr (6, [.ref apg, .int (nI P), .int ((scM pgf P).2), .int (nI ((E + 1) / 3)), .int (nI ((P - E) - 1)), .int ym, .int tm, .ref arw, .ref ans, .ref aro, .ref abo, .int (nI Sm), .ref asi, .int sd, .ref asv, .int kt, .int ky, .int (nI ks), .ref akr, .ref akn, .ref aks, .long ha])), (apg, .inl (cI, 22, .inl pgf))] := hD
                    refine lv_aload_n hx hb dX6_tower_165 rfl (lv_at hl 1 rfl) ?_
                    refine lv_iload_n hx hb dX6_tower_166 rfl (lv_at hl 0 rfl) ?_
                    refine z_rwVv (As := [.int (nI i)]) (rest := []) (wr := [(arw, .inl (cI, 15, .inl (towR pgf rw ((E + 1) / 3)))), (apg, .inl (cI, 22, .inl pgf))]) (w1 := [(mo, .inr (6, [.ref apg, .int (nI P), .int ((scM pgf P).2), .int (nI ((E + 1) / 3)), .int (nI ((P - E) - 1)), .int ym, .int tm, .ref arw, .ref ans, .ref aro, .ref abo, .int (nI Sm), .ref asi, .int sd, .ref asv, .int kt, .int ky, .int (nI ks), .ref akr, .ref akn, .ref aks, .long ha])), (ans, .inl (cI, 20, .inl (upd (upd (upd (upd (towN pgf E ns i) (4 * i) ((pgf ((E + 1) + i)) - 48)) (4 * i + 1) (-1)) (4 * i + 2) 0) (4 * i + 3) 0)))]) ⟨hx, hb, hml, hown, hts⟩ (c_X6_empty l D cI cZ cA _ mo apg P ((scM pgf P).2) ((E + 1) / 3) ((P - E) - 1) ym tm arw ans aro abo Sm asi sd asv kt ky ks akr akn aks ha (upd (towN pgf E ns i) (4 * i) ((pgf ((E + 1) + i)) - 48)) i (by first | assumption | omega)) (cwV 1 hts gX6_tower_X6_empty rfl rfl rfl (by decide +kernel) ⟨Nat.le_of_ble_eq_true rfl, Nat.le_of_ble_eq_true rfl⟩) hE hP hD hS hA [2, 1] [0, 3] rfl rfl rfl (by decide) (by decide) (by decide) 0 6 rfl rfl rfl hl.1 rfl (Nat.le_of_ble_eq_true rfl) dX6_tower_167 ⟨Nat.zero_le _, Nat.zero_le _⟩ (fun H locs hP hD hS => ?_)
                    have hP : va_P D vwCl [(arw, .inl (cI, 15, .inl (towR pgf rw ((E + 1) / 3)))), (apg, .inl (cI, 22, .inl pgf)), (mo, .inr (6, [.ref apg, .int (nI P), .int ((scM pgf P).2), .int (nI ((E + 1) / 3)), .int (nI ((P - E) - 1)), .int ym, .int tm, .ref arw, .ref ans, .ref aro, .ref abo, .int (nI Sm), .ref asi, .int sd, .ref asv, .int kt, .int ky, .int (nI ks), .ref akr, .ref akn, .ref aks, .long ha])), (ans, .inl (cI, 20, .inl (upd (upd (upd (upd (towN pgf E ns i) (4 * i) ((pgf ((E + 1) + i)) - 48)) (4 * i + 1) (-1)) (4 * i + 2) 0) (4 * i + 3) 0)))] H := hP
                    have hD : va_D A [(arw, .inl (cI, 15, .inl (towR pgf rw ((E + 1) / 3)))), (apg, .inl (cI, 22, .inl pgf)), (mo, .inr (6, [.ref apg, .int (nI P), .int ((scM pgf P).2), .int (nI ((E + 1) / 3)), .int (nI ((P - E) - 1)), .int ym, .int tm, .ref arw, .ref ans, .ref aro, .ref abo, .int (nI Sm), .ref asi, .int sd, .ref asv, .int kt, .int ky, .int (nI ks), .ref akr, .ref akn, .ref aks, .long ha])), (ans, .inl (cI, 20, .inl (upd (upd (upd (upd (towN pgf E ns i) (4 * i) ((pgf ((E + 1) + i)) - 48)) (4 * i + 1) (-1)) (4 * i + 2) 0) (4 * i + 3) 0)))] := hD
                    refine lv_iinc (v := nI (i + 1)) (lv' := [(1, .int (nI (i + 1))), (0, .ref mo)]) hx hb dX6_tower_170 hl (k := 0) rfl (nI_add i 1) (by decide) rfl (fun ls hl => ?_)
                    refine lv_goto (tgt := 133) hx hb dX6_tower_173 (by decide) ?_
                    exact ihhc133_2 (i + 1) (by omega) (by omega) (nI (i + 1)) rfl (upd (upd (upd (upd (towN pgf E ns i) (4 * i) ((pgf ((E + 1) + i)) - 48)) (4 * i + 1) (-1)) (4 * i + 2) 0) (4 * i + 3) 0) rfl _ _ (hP.sub [0, 3, 2, 1] rfl) (hD.sub [0, 3, 2, 1] (by decide) rfl) hS ls (lv_sub hl [0, 1] rfl)
              exact hc133_2 (P - E - 1 + 1) 0 (by omega) (by omega) 0 rfl ns rfl _ _ (hP.sub [0, 1, 2, 3] rfl) (hD.sub [0, 1, 2, 3] (by decide) rfl) hS ls (lv_sub hl [0, 1] rfl)
            · have n_54 := zn_nle (a := (E + 1) / 3) (b := i) rfl rfl c_54 (by omega) (by omega)
              refine lv_aload_n hx hb dX6_tower_57 rfl (lv_at hl 1 rfl) ?_
              refine va_get (D := D) (ci := 6) (v := .ref arw) (C := RX6) (T := TX6) (N := 22) hx hb hts hinX6 hown hE.1 hP 2 rfl rfl 7 (by decide) k_9 (fun _ h9 => h9) rfl dX6_tower_58 ?_
              refine lv_iconst (v := 3) hx hb dX6_tower_61 (by decide) ?_
              refine lv_iload_n hx hb dX6_tower_62 rfl (lv_at hl 0 rfl) ?_
              refine z_imulN hx hb (a := 3) (b := i) rfl rfl dX6_tower_63 ?_
              refine lv_aload_n hx hb dX6_tower_64 rfl (lv_at hl 1 rfl) ?_
              refine va_get (D := D) (ci := 6) (v := .ref apg) (C := RX6) (T := TX6) (N := 22) hx hb hts hinX6 hown hE.1 hP 2 rfl rfl 0 (by decide) k_8 (fun _ h9 => h9) rfl dX6_tower_65 ?_
              refine lv_iconst (v := 3) hx hb dX6_tower_68 (by decide) ?_
              refine lv_iload_n hx hb dX6_tower_69 rfl (lv_at hl 0 rfl) ?_
              refine z_imulN hx hb (a := 3) (b := i) rfl rfl dX6_tower_70 ?_
              refine z_iald hx hb hE hP 3 rfl (j := 3 * i) rfl (by omega) (by decide) dX6_tower_71 ?_
              refine z_roSi (As := [.int (pgf (3 * i))]) (rest := [.int (nI (3 * i)), .ref arw]) ⟨hx, hb, hml, hown, hts⟩ (c_X6_kindBy l D cI cZ cA (pgf (3 * i)) ) (va_cwS 1 hts gX6_tower_X6_kindBy rfl rfl rfl (by decide +kernel) ⟨Nat.le_of_ble_eq_true rfl, Nat.le_of_ble_eq_true rfl⟩) hE hP [] rfl rfl hl.1 rfl (Nat.le_of_ble_eq_true rfl) dX6_tower_72 ⟨Nat.zero_le _, Nat.zero_le _⟩ ?_
              refine z_iast hx hb hE hP hD hS 0 rfl (j := 3 * i) rfl (by omega) (by decide) dX6_tower_75 (fun H locs hP hD hS => ?_)
              have hP : va_P D vwCl [(arw, .inl (cI, 15, .inl (upd (towR pgf rw i) (3 * i) (kb (pgf (3 * i)))))), (ans, .inl (cI, 20, .inl ns)), (mo, .inr (6, [.ref apg, .int (nI P), .int ((scM pgf P).2), .int (nI ((E + 1) / 3)), .int (nI Hn), .int ym, .int tm, .ref arw, .ref ans, .ref aro, .ref abo, .int (nI Sm), .ref asi, .int sd, .ref asv, .int kt, .int ky, .int (nI ks), .ref akr, .ref akn, .ref aks, .long ha])), (apg, .inl (cI, 22, .inl pgf))] H := hP
              have hD : va_D A [(arw, .inl (cI, 15, .inl (upd (towR pgf rw i) (3 * i) (kb (pgf (3 * i)))))), (ans, .inl (cI, 20, .inl ns)), (mo, .inr (6, [.ref apg, .int (nI P), .int ((scM pgf P).2), .int (nI ((E + 1) / 3)), .int (nI Hn), .int ym, .int tm, .ref arw, .ref ans, .ref aro, .ref abo, .int (nI Sm), .ref asi, .int sd, .ref asv, .int kt, .int ky, .int (nI ks), .ref akr, .ref akn, .ref aks, .long ha])), (apg, .inl (cI, 22, .inl pgf))] := hD
              refine lv_aload_n hx hb dX6_tower_76 rfl (lv_at hl 1 rfl) ?_
              refine va_get (D := D) (ci := 6) (v := .ref arw) (C := RX6) (T := TX6) (N := 22) hx hb hts hinX6 hown hE.1 hP 2 rfl rfl 7 (by decide) k_9 (fun _ h9 => h9) rfl dX6_tower_77 ?_
              refine lv_iconst (v := 3) hx hb dX6_tower_80 (by decide) ?_
              refine lv_iload_n hx hb dX6_tower_81 rfl (lv_at hl 0 rfl) ?_
              refine z_imulN hx hb (a := 3) (b := i) rfl rfl dX6_tower_82 ?_
              refine lv_iconst (v := 1) hx hb dX6_tower_83 (by decide) ?_
              refine z_iaddN hx hb (a := 3 * i) (b := 1) rfl rfl dX6_tower_84 ?_
              refine lv_aload_n hx hb dX6_tower_85 rfl (lv_at hl 1 rfl) ?_
              refine va_get (D := D) (ci := 6) (v := .ref apg) (C := RX6) (T := TX6) (N := 22) hx hb hts hinX6 hown hE.1 hP 2 rfl rfl 0 (by decide) k_8 (fun _ h9 => h9) rfl dX6_tower_86 ?_
              refine lv_iconst (v := 3) hx hb dX6_tower_89 (by decide) ?_
              refine lv_iload_n hx hb dX6_tower_90 rfl (lv_at hl 0 rfl) ?_
              refine z_imulN hx hb (a := 3) (b := i) rfl rfl dX6_tower_91 ?_
              refine lv_iconst (v := 1) hx hb dX6_tower_92 (by decide) ?_
              refine z_iaddN hx hb (a := 3 * i) (b := 1) rfl rfl dX6_tower_93 ?_
              refine z_iald hx hb hE hP 3 rfl (j := (3 * i) + 1) rfl (by omega) (by decide) dX6_tower_94 ?_
              refine lv_bipush (v := 48) hx hb dX6_tower_95 (by decide) ?_
              refine lv_isub hx hb dX6_tower_97 ?_
              refine z_iast hx hb hE hP hD hS 0 rfl (j := (3 * i) + 1) rfl (by omega) (by decide) dX6_tower_98 (fun H locs hP hD hS => ?_)
              have hP : va_P D vwCl [(arw, .inl (cI, 15, .inl (upd (upd (towR pgf rw i) (3 * i) (kb (pgf (3 * i)))) ((3 * i) + 1) ((pgf ((3 * i) + 1)) - 48)))), (ans, .inl (cI, 20, .inl ns)), (mo, .inr (6, [.ref apg, .int (nI P), .int ((scM pgf P).2), .int (nI ((E + 1) / 3)), .int (nI Hn), .int ym, .int tm, .ref arw, .ref ans, .ref aro, .ref abo, .int (nI Sm), .ref asi, .int sd, .ref asv, .int kt, .int ky, .int (nI ks), .ref akr, .ref akn, .ref aks, .long ha])), (apg, .inl (cI, 22, .inl pgf))] H := hP
              have hD : va_D A [(arw, .inl (cI, 15, .inl (upd (upd (towR pgf rw i) (3 * i) (kb (pgf (3 * i)))) ((3 * i) + 1) ((pgf ((3 * i) + 1)) - 48)))), (ans, .inl (cI, 20, .inl ns)), (mo, .inr (6, [.ref apg, .int (nI P), .int ((scM pgf P).2), .int (nI ((E + 1) / 3)), .int (nI Hn), .int ym, .int tm, .ref arw, .ref ans, .ref aro, .ref abo, .int (nI Sm), .ref asi, .int sd, .ref asv, .int kt, .int ky, .int (nI ks), .ref akr, .ref akn, .ref aks, .long ha])), (apg, .inl (cI, 22, .inl pgf))] := hD
              refine lv_aload_n hx hb dX6_tower_99 rfl (lv_at hl 1 rfl) ?_
              refine va_get (D := D) (ci := 6) (v := .ref arw) (C := RX6) (T := TX6) (N := 22) hx hb hts hinX6 hown hE.1 hP 2 rfl rfl 7 (by decide) k_9 (fun _ h9 => h9) rfl dX6_tower_100 ?_
              refine lv_iconst (v := 3) hx hb dX6_tower_103 (by decide) ?_
              refine lv_iload_n hx hb dX6_tower_104 rfl (lv_at hl 0 rfl) ?_
              refine z_imulN hx hb (a := 3) (b := i) rfl rfl dX6_tower_105 ?_
              refine lv_iconst (v := 2) hx hb dX6_tower_106 (by decide) ?_
              refine z_iaddN hx hb (a := 3 * i) (b := 2) rfl rfl dX6_tower_107 ?_
              refine lv_iconst (v := 0) hx hb dX6_tower_108 (by decide) ?_
              refine z_iast hx hb hE hP hD hS 0 rfl (j := (3 * i) + 2) rfl (by omega) (by decide) dX6_tower_109 (fun H locs hP hD hS => ?_)
              have hP : va_P D vwCl [(arw, .inl (cI, 15, .inl (upd (upd (upd (towR pgf rw i) (3 * i) (kb (pgf (3 * i)))) ((3 * i) + 1) ((pgf ((3 * i) + 1)) - 48)) ((3 * i) + 2) 0))), (ans, .inl (cI, 20, .inl ns)), (mo, .inr (6, [.ref apg, .int (nI P), .int ((scM pgf P).2), .int (nI ((E + 1) / 3)), .int (nI Hn), .int ym, .int tm, .ref arw, .ref ans, .ref aro, .ref abo, .int (nI Sm), .ref asi, .int sd, .ref asv, .int kt, .int ky, .int (nI ks), .ref akr, .ref akn, .ref aks, .long ha])), (apg, .inl (cI, 22, .inl pgf))] H := hP
              have hD : va_D A [(arw, .inl (cI, 15, .inl (upd (upd (upd (towR pgf rw i) (3 * i) (kb (pgf (3 * i)))) ((3 * i) + 1) ((pgf ((3 * i) + 1)) - 48)) ((3 * i) + 2) 0))), (ans, .inl (cI, 20, .inl ns)), (mo, .inr (6, [.ref apg, .int (nI P), .int ((scM pgf P).2), .int (nI ((E + 1) / 3)), .int (nI Hn), .int ym, .int tm, .ref arw, .ref ans, .ref aro, .ref abo, .int (nI Sm), .ref asi, .int sd, .ref asv, .int kt, .int ky, .int (nI ks), .ref akr, .ref akn, .ref aks, .long ha])), (apg, .inl (cI, 22, .inl pgf))] := hD
              refine lv_iinc (v := nI (i + 1)) (lv' := [(1, .int (nI (i + 1))), (0, .ref mo)]) hx hb dX6_tower_110 hl (k := 0) rfl (nI_add i 1) (by decide) rfl (fun ls hl => ?_)
              refine lv_goto (tgt := 49) hx hb dX6_tower_113 (by decide) ?_
              exact ihhc49_1 (i + 1) (by omega) (by omega) (nI (i + 1)) rfl (upd (upd (upd (towR pgf rw i) (3 * i) (kb (pgf (3 * i)))) ((3 * i) + 1) ((pgf ((3 * i) + 1)) - 48)) ((3 * i) + 2) 0) rfl _ _ (hP.sub [0, 1, 2, 3] rfl) (hD.sub [0, 1, 2, 3] (by decide) rfl) hS ls (lv_sub hl [0, 1] rfl)
        exact hc49_1 ((E + 1) / 3 + 1) 0 (by omega) (by omega) 0 rfl rw rfl _ _ (hP.sub [0, 1, 2, 3] rfl) (hD.sub [0, 1, 2, 3] (by decide) rfl) hS ls (lv_sub hl [0, 1] rfl)
      · refine lv_bipush (v := (-103)) hx hb dX6_tower_32 (by decide) ?_
        have e9 : (fTowM pgf rw ns P K Hn ym tm Sm) = ((-103), P, (scM pgf P).2, K, Hn, ym, tm, Sm, rw, ns) := (fTowM_f (fun q => c_29 q.2.2))
        have hP9 := hP.sub (ws' := [(mo, .inr (6, [.ref apg, .int (nI ((fTowM pgf rw ns P K Hn ym tm Sm).2.1)), .int ((fTowM pgf rw ns P K Hn ym tm Sm).2.2.1), .int (nI ((fTowM pgf rw ns P K Hn ym tm Sm).2.2.2.1)), .int (nI ((fTowM pgf rw ns P K Hn ym tm Sm).2.2.2.2.1)), .int ((fTowM pgf rw ns P K Hn ym tm Sm).2.2.2.2.2.1), .int ((fTowM pgf rw ns P K Hn ym tm Sm).2.2.2.2.2.2.1), .ref arw, .ref ans, .ref aro, .ref abo, .int (nI ((fTowM pgf rw ns P K Hn ym tm Sm).2.2.2.2.2.2.2.1)), .ref asi, .int sd, .ref asv, .int kt, .int ky, .int (nI ks), .ref akr, .ref akn, .ref aks, .long ha])), (apg, .inl (cI, 22, .inl pgf)), (arw, .inl (cI, 15, .inl ((fTowM pgf rw ns P K Hn ym tm Sm).2.2.2.2.2.2.2.2.1))), (ans, .inl (cI, 20, .inl ((fTowM pgf rw ns P K Hn ym tm Sm).2.2.2.2.2.2.2.2.2)))]) [2, 3, 0, 1] (by rw [e9]; try rfl)
        have hD9 := hD.sub (ws' := [(mo, .inr (6, [.ref apg, .int (nI ((fTowM pgf rw ns P K Hn ym tm Sm).2.1)), .int ((fTowM pgf rw ns P K Hn ym tm Sm).2.2.1), .int (nI ((fTowM pgf rw ns P K Hn ym tm Sm).2.2.2.1)), .int (nI ((fTowM pgf rw ns P K Hn ym tm Sm).2.2.2.2.1)), .int ((fTowM pgf rw ns P K Hn ym tm Sm).2.2.2.2.2.1), .int ((fTowM pgf rw ns P K Hn ym tm Sm).2.2.2.2.2.2.1), .ref arw, .ref ans, .ref aro, .ref abo, .int (nI ((fTowM pgf rw ns P K Hn ym tm Sm).2.2.2.2.2.2.2.1)), .ref asi, .int sd, .ref asv, .int kt, .int ky, .int (nI ks), .ref akr, .ref akn, .ref aks, .long ha])), (apg, .inl (cI, 22, .inl pgf)), (arw, .inl (cI, 15, .inl ((fTowM pgf rw ns P K Hn ym tm Sm).2.2.2.2.2.2.2.2.1))), (ans, .inl (cI, 20, .inl ((fTowM pgf rw ns P K Hn ym tm Sm).2.2.2.2.2.2.2.2.2)))]) [2, 3, 0, 1] (by decide) (by rw [e9]; try rfl)
        exact W.iret (v := (-103)) hx hb hr (fun t ht hW => ⟨⟨(-103), (), rfl, (by rw [e9]; try rfl), by rw [ht]; exact hP9, hD9⟩, hS.F ht⟩) hS.2.2 dX6_tower_34

set_option maxHeartbeats 4000000 in
set_option maxRecDepth 100000 in
theorem c_X6_centuries (l : Launch) (D : va_G) (cI cZ cA : ClassId) (sz : Nat) (mo : Nat) (apg : Nat) (P : Nat) (ea : Int32) (K : Nat) (Hn : Nat) (ym : Int32) (tm : Int32) (arw : Nat) (ans : Nat) (aro : Nat) (abo : Nat) (Sm : Nat) (asi : Nat) (sd : Int32) (asv : Nat) (kt : Int32) (ky : Int32) (ks : Nat) (akr : Nat) (akn : Nat) (aks : Nat) (ha : Int64) (rw : Nat → Int32) (ns : Nat → Int32) (sv : Nat → Int32) (many : Int32) (seed : Int32) (what : Int32) (hK : K ≤ 5) (hH : Hn ≤ 5) (ok : letOk ns K Hn) : Met l yX6_centuries wsX6_centuries (zr 4) (va_Pc [.ref mo, .int many, .int seed, .int what] (zPw D cI cZ cA [(mo, .inr (6, [.ref apg, .int (nI P), .int ea, .int (nI K), .int (nI Hn), .int ym, .int tm, .ref arw, .ref ans, .ref aro, .ref abo, .int (nI Sm), .ref asi, .int sd, .ref asv, .int kt, .int ky, .int (nI ks), .ref akr, .ref akn, .ref aks, .long ha])), (arw, .inl (cI, 15, .inl rw)), (ans, .inl (cI, 20, .inl ns)), (asv, .inl (cI, 20, .inl sv))] sz)) (va_Qi (fun (r : Int32) (_ : Unit) => r = (fCenM rw ns sv Hn sd many seed what).1) (zB D [(mo, .inr (6, [.ref apg, .int (nI P), .int ea, .int (nI K), .int (nI Hn), .int ym, .int tm, .ref arw, .ref ans, .ref aro, .ref abo, .int (nI Sm), .ref asi, .int ((fCenM rw ns sv Hn sd many seed what).2.1), .ref asv, .int kt, .int ky, .int (nI ks), .ref akr, .ref akn, .ref aks, .long ha])), (arw, .inl (cI, 15, .inl rw)), (ans, .inl (cI, 20, .inl ns)), (asv, .inl (cI, 20, .inl ((fCenM rw ns sv Hn sd many seed what).2.2)))] (va_A [(mo, .inr (6, [.ref apg, .int (nI P), .int ea, .int (nI K), .int (nI Hn), .int ym, .int tm, .ref arw, .ref ans, .ref aro, .ref abo, .int (nI Sm), .ref asi, .int sd, .ref asv, .int kt, .int ky, .int (nI ks), .ref akr, .ref akn, .ref aks, .long ha])), (arw, .inl (cI, 15, .inl rw)), (ans, .inl (cI, 20, .inl ns)), (asv, .inl (cI, 20, .inl sv))] sz)) (va_A [(mo, .inr (6, [.ref apg, .int (nI P), .int ea, .int (nI K), .int (nI Hn), .int ym, .int tm, .ref arw, .ref ans, .ref aro, .ref abo, .int (nI Sm), .ref asi, .int sd, .ref asv, .int kt, .int ky, .int (nI ks), .ref akr, .ref akn, .ref aks, .long ha])), (arw, .inl (cI, 15, .inl rw)), (ans, .inl (cI, 20, .inl ns)), (asv, .inl (cI, 20, .inl sv))] sz)) 0 0 (va_A [(mo, .inr (6, [.ref apg, .int (nI P), .int ea, .int (nI K), .int (nI Hn), .int ym, .int tm, .ref arw, .ref ans, .ref aro, .ref abo, .int (nI Sm), .ref asi, .int sd, .ref asv, .int kt, .int ky, .int (nI ks), .ref akr, .ref akn, .ref aks, .long ha])), (arw, .inl (cI, 15, .inl rw)), (ans, .inl (cI, 20, .inl ns)), (asv, .inl (cI, 20, .inl sv))] sz) := by
  refine Met.ofW (cc := cX6_centuries) (maxL := 8) (ret := (some .int)) (by decide) rfl ?_
  intro p e s m args below meth c s₁ B hml hv
  obtain ⟨rfl, hsz, hP, hD0, hE⟩ := hv
  have hx := B.exec
  have hb := B.bytes
  have hr := B.returns
  have hts := atoms_spec (ws := wsX6_centuries) B.pre
  have hown : s.vm.findClass RX6 = some m.cls := findClass_of_methodNamed B.named
  have hlocks := B.notSynchronized
  subst hsz
  have hD := hD0.self (sz := s.heap.size)
  generalize hAe : va_A [(mo, .inr (6, [.ref apg, .int (nI P), .int ea, .int (nI K), .int (nI Hn), .int ym, .int tm, .ref arw, .ref ans, .ref aro, .ref abo, .int (nI Sm), .ref asi, .int sd, .ref asv, .int kt, .int ky, .int (nI ks), .ref akr, .ref akn, .ref aks, .long ha])), (arw, .inl (cI, 15, .inl rw)), (ans, .inl (cI, 20, .inl ns)), (asv, .inl (cI, 20, .inl sv))] s.heap.size = A at hD ⊢
  have hA : ∀ q : Nat, s.heap.size ≤ q → A q := fun q h => by rw [← hAe]; exact Or.inr h
  have hS : va_S A s.heap s.heap [] := va_S.rf
  have hP : va_P D vwCl [(mo, .inr (6, [.ref apg, .int (nI P), .int ea, .int (nI K), .int (nI Hn), .int ym, .int tm, .ref arw, .ref ans, .ref aro, .ref abo, .int (nI Sm), .ref asi, .int sd, .ref asv, .int kt, .int ky, .int (nI ks), .ref akr, .ref akn, .ref aks, .long ha])), (arw, .inl (cI, 15, .inl rw)), (ans, .inl (cI, 20, .inl ns)), (asv, .inl (cI, 20, .inl sv))] s.heap := hP
  have hD : va_D A [(mo, .inr (6, [.ref apg, .int (nI P), .int ea, .int (nI K), .int (nI Hn), .int ym, .int tm, .ref arw, .ref ans, .ref aro, .ref abo, .int (nI Sm), .ref asi, .int sd, .ref asv, .int kt, .int ky, .int (nI ks), .ref akr, .ref akn, .ref aks, .long ha])), (arw, .inl (cI, 15, .inl rw)), (ans, .inl (cI, 20, .inl ns)), (asv, .inl (cI, 20, .inl sv))] := hD
  have hl := lv_entry ([.ref mo, .int many, .int seed, .int what]) (n := 8) (Nat.le_of_ble_eq_true rfl)
  rw [lg_entry_eq]
  generalize (lg_sl ([.ref mo, .int many, .int seed, .int what]) ++ List.replicate (8 - (lg_sl ([.ref mo, .int many, .int seed, .int what])).length) Slot.unset).toArray = ls at hl ⊢
  have hl : lv_has ls 8 [(0, .ref mo), (1, .int many), (2, .int seed), (3, .int what)] := hl
  have hinX6 : ∀ w ∈ wsX60, w ∈ wsX6_centuries := fun w h => List.mem_cons_of_mem _ (List.mem_append_right _ h)
  have k_0 := hts (.constantLong RX6 183 (60)) (by decide +kernel)
  have k_1 := hts (.constantLong RX6 148 (2)) (by decide +kernel)
  have k_2 := hts (.fieldLink RX6 16 "VowDovesModel" "nests" "[I") (by decide +kernel)
  have k_3 := hts (.fieldLink RX6 28 "VowDovesModel" "saved" "[I") (by decide +kernel)
  have k_4 := hts (.fieldLink RX6 175 "VowDovesModel" "seedNow" "I") (by decide +kernel)
  have k_5 := hts (.fieldLink RX6 75 "VowDovesModel" "holes" "I") (by decide +kernel)
  have k_6 := hts (.fieldLink RX6 13 "VowDovesModel" "rows" "[I") (by decide +kernel)
  refine lv_iload_n hx hb dX6_centuries_0 rfl (lv_at hl 1 rfl) ?_
  refine lv_i2l (v := (many : Int32).toInt64) hx hb dX6_centuries_1 rfl ?_
  refine lv_lconst (v := 1) hx hb dX6_centuries_2 (by decide) ?_
  refine lv_ldc2 (v := 60) hx hb hown k_0 dX6_centuries_3 ?_
  refine z_roSi (As := [.long ((many : Int32).toInt64), .long 1, .long 60]) (rest := []) ⟨hx, hb, hml, hown, hts⟩ (c_X6_in l D cI cZ cA ((many : Int32).toInt64) 1 60 ) (va_cwS 3 hts gX6_centuries_X6_in rfl rfl rfl (by decide +kernel) ⟨Nat.le_of_ble_eq_true rfl, Nat.le_of_ble_eq_true rfl⟩) hE hP [] rfl rfl hl.1 rfl (Nat.le_of_ble_eq_true rfl) dX6_centuries_6 ⟨Nat.zero_le _, Nat.zero_le _⟩ ?_
  refine lv_if_eq (tgt := 28) hx hb dX6_centuries_9 (by decide) (fun c_9 => ?_) (fun c_9 => ?_)
  · have c_9 := zb_0 c_9
    rw [zin (lo := 1) (hi := 60) (by decide) (by decide)] at c_9
    refine lv_bipush (v := (-102)) hx hb dX6_centuries_28 (by decide) ?_
    have e9 : (fCenM rw ns sv Hn sd many seed what) = ((-102), sd, sv) := (by unfold fCenM; grind)
    have hP9 := hP.sub (ws' := [(mo, .inr (6, [.ref apg, .int (nI P), .int ea, .int (nI K), .int (nI Hn), .int ym, .int tm, .ref arw, .ref ans, .ref aro, .ref abo, .int (nI Sm), .ref asi, .int ((fCenM rw ns sv Hn sd many seed what).2.1), .ref asv, .int kt, .int ky, .int (nI ks), .ref akr, .ref akn, .ref aks, .long ha])), (arw, .inl (cI, 15, .inl rw)), (ans, .inl (cI, 20, .inl ns)), (asv, .inl (cI, 20, .inl ((fCenM rw ns sv Hn sd many seed what).2.2)))]) [0, 1, 2, 3] (by rw [e9]; try rfl)
    have hD9 := hD.sub (ws' := [(mo, .inr (6, [.ref apg, .int (nI P), .int ea, .int (nI K), .int (nI Hn), .int ym, .int tm, .ref arw, .ref ans, .ref aro, .ref abo, .int (nI Sm), .ref asi, .int ((fCenM rw ns sv Hn sd many seed what).2.1), .ref asv, .int kt, .int ky, .int (nI ks), .ref akr, .ref akn, .ref aks, .long ha])), (arw, .inl (cI, 15, .inl rw)), (ans, .inl (cI, 20, .inl ns)), (asv, .inl (cI, 20, .inl ((fCenM rw ns sv Hn sd many seed what).2.2)))]) [0, 1, 2, 3] (by decide) (by rw [e9]; try rfl)
    exact W.iret (v := (-102)) hx hb hr (fun t ht hW => ⟨⟨(-102), (), rfl, (by rw [e9]; try rfl), by rw [ht]; exact hP9, hD9⟩, hS.F ht⟩) hS.2.2 dX6_centuries_30
  · have c_9 := zb_1 c_9
    rw [zin (lo := 1) (hi := 60) (by decide) (by decide)] at c_9
    obtain ⟨my, hmy, em⟩ := nI_of2 (n := 60) (M := 60) (by decide) (fun q => absurd (Int32.le_trans c_9.1 (Int32.le_of_lt q)) (by decide)) c_9.2
    have tmy : many.toNatClampNeg = my := by rw [em, nI_clamp (by omega)]
    refine lv_iload_n hx hb dX6_centuries_12 rfl (lv_at hl 2 rfl) ?_
    refine lv_if_lt (tgt := 28) hx hb dX6_centuries_13 (by decide) (fun c_13 => ?_) (fun c_13 => ?_)
    · refine lv_bipush (v := (-102)) hx hb dX6_centuries_28 (by decide) ?_
      have e9 : (fCenM rw ns sv Hn sd many seed what) = ((-102), sd, sv) := (by unfold fCenM; grind)
      have hP9 := hP.sub (ws' := [(mo, .inr (6, [.ref apg, .int (nI P), .int ea, .int (nI K), .int (nI Hn), .int ym, .int tm, .ref arw, .ref ans, .ref aro, .ref abo, .int (nI Sm), .ref asi, .int ((fCenM rw ns sv Hn sd many seed what).2.1), .ref asv, .int kt, .int ky, .int (nI ks), .ref akr, .ref akn, .ref aks, .long ha])), (arw, .inl (cI, 15, .inl rw)), (ans, .inl (cI, 20, .inl ns)), (asv, .inl (cI, 20, .inl ((fCenM rw ns sv Hn sd many seed what).2.2)))]) [0, 1, 2, 3] (by rw [e9]; try rfl)
      have hD9 := hD.sub (ws' := [(mo, .inr (6, [.ref apg, .int (nI P), .int ea, .int (nI K), .int (nI Hn), .int ym, .int tm, .ref arw, .ref ans, .ref aro, .ref abo, .int (nI Sm), .ref asi, .int ((fCenM rw ns sv Hn sd many seed what).2.1), .ref asv, .int kt, .int ky, .int (nI ks), .ref akr, .ref akn, .ref aks, .long ha])), (arw, .inl (cI, 15, .inl rw)), (ans, .inl (cI, 20, .inl ns)), (asv, .inl (cI, 20, .inl ((fCenM rw ns sv Hn sd many seed what).2.2)))]) [0, 1, 2, 3] (by decide) (by rw [e9]; try rfl)
      exact W.iret (v := (-102)) hx hb hr (fun t ht hW => ⟨⟨(-102), (), rfl, (by rw [e9]; try rfl), by rw [ht]; exact hP9, hD9⟩, hS.F ht⟩) hS.2.2 dX6_centuries_30
    · refine lv_iload_n hx hb dX6_centuries_16 rfl (lv_at hl 3 rfl) ?_
      refine lv_i2l (v := (what : Int32).toInt64) hx hb dX6_centuries_17 rfl ?_
      refine lv_lconst (v := 0) hx hb dX6_centuries_18 (by decide) ?_
      refine lv_ldc2 (v := 2) hx hb hown k_1 dX6_centuries_19 ?_
      refine z_roSi (As := [.long ((what : Int32).toInt64), .long 0, .long 2]) (rest := []) ⟨hx, hb, hml, hown, hts⟩ (c_X6_in l D cI cZ cA ((what : Int32).toInt64) 0 2 ) (va_cwS 3 hts gX6_centuries_X6_in rfl rfl rfl (by decide +kernel) ⟨Nat.le_of_ble_eq_true rfl, Nat.le_of_ble_eq_true rfl⟩) hE hP [] rfl rfl hl.1 rfl (Nat.le_of_ble_eq_true rfl) dX6_centuries_22 ⟨Nat.zero_le _, Nat.zero_le _⟩ ?_
      refine lv_if_ne (tgt := 31) hx hb dX6_centuries_25 (by decide) (fun c_25 => ?_) (fun c_25 => ?_)
      · have c_25 := zb_1 c_25
        rw [zin (lo := 0) (hi := 2) (by decide) (by decide)] at c_25
        refine lv_aload_n hx hb dX6_centuries_31 rfl (lv_at hl 0 rfl) ?_
        refine z_roVi (As := []) (rest := []) ⟨hx, hb, hml, hown, hts⟩ (c_X6_lacks l D cI cZ cA mo apg P ea K Hn ym tm arw ans aro abo Sm asi sd asv kt ky ks akr akn aks ha (by first | assumption | omega)) (cwV 0 hts gX6_centuries_X6_lacks rfl rfl rfl (by decide +kernel) ⟨Nat.le_of_ble_eq_true rfl, Nat.le_of_ble_eq_true rfl⟩) hE hP [0] rfl 0 6 rfl rfl rfl hl.1 rfl (Nat.le_of_ble_eq_true rfl) dX6_centuries_32 ⟨Nat.zero_le _, Nat.zero_le _⟩ ?_
        refine lv_if_eq (tgt := 41) hx hb dX6_centuries_35 (by decide) (fun c_35 => ?_) (fun c_35 => ?_)
        · have c_35 := zb_0 c_35
          refine lv_aload_n hx hb dX6_centuries_41 rfl (lv_at hl 0 rfl) ?_
          refine va_get (D := D) (ci := 6) (v := .ref ans) (C := RX6) (T := TX6) (N := 22) hx hb hts hinX6 hown hE.1 hP 0 rfl rfl 8 (by decide) k_2 (fun _ h9 => h9) rfl dX6_centuries_42 ?_
          refine lv_aload_n hx hb dX6_centuries_45 rfl (lv_at hl 0 rfl) ?_
          refine va_get (D := D) (ci := 6) (v := .ref asv) (C := RX6) (T := TX6) (N := 22) hx hb hts hinX6 hown hE.1 hP 0 rfl rfl 14 (by decide) k_3 (fun _ h9 => h9) rfl dX6_centuries_46 ?_
          refine z_rwSv (As := [.ref ans, .ref asv]) (rest := []) (wr := [(mo, .inr (6, [.ref apg, .int (nI P), .int ea, .int (nI K), .int (nI Hn), .int ym, .int tm, .ref arw, .ref ans, .ref aro, .ref abo, .int (nI Sm), .ref asi, .int sd, .ref asv, .int kt, .int ky, .int (nI ks), .ref akr, .ref akn, .ref aks, .long ha])), (arw, .inl (cI, 15, .inl rw))]) (w1 := [(ans, .inl (cI, 20, .inl ns)), (asv, .inl (cI, 20, .inl ns))]) ⟨hx, hb, hml, hown, hts⟩ (c_X6_copy l D cI cZ cA _ ans asv 20 ns sv (by first | assumption | omega)) (va_cwS 2 hts gX6_centuries_X6_copy rfl rfl rfl (by decide +kernel) ⟨Nat.le_of_ble_eq_true rfl, Nat.le_of_ble_eq_true rfl⟩) hE hP hD hS hA [2, 3] [0, 1] rfl rfl rfl (by decide) (by decide) (by decide) rfl hl.1 rfl (Nat.le_of_ble_eq_true rfl) dX6_centuries_49 ⟨Nat.zero_le _, Nat.zero_le _⟩ (fun H locs hP hD hS => ?_)
          have hP : va_P D vwCl [(mo, .inr (6, [.ref apg, .int (nI P), .int ea, .int (nI K), .int (nI Hn), .int ym, .int tm, .ref arw, .ref ans, .ref aro, .ref abo, .int (nI Sm), .ref asi, .int sd, .ref asv, .int kt, .int ky, .int (nI ks), .ref akr, .ref akn, .ref aks, .long ha])), (arw, .inl (cI, 15, .inl rw)), (ans, .inl (cI, 20, .inl ns)), (asv, .inl (cI, 20, .inl ns))] H := hP
          have hD : va_D A [(mo, .inr (6, [.ref apg, .int (nI P), .int ea, .int (nI K), .int (nI Hn), .int ym, .int tm, .ref arw, .ref ans, .ref aro, .ref abo, .int (nI Sm), .ref asi, .int sd, .ref asv, .int kt, .int ky, .int (nI ks), .ref akr, .ref akn, .ref aks, .long ha])), (arw, .inl (cI, 15, .inl rw)), (ans, .inl (cI, 20, .inl ns)), (asv, .inl (cI, 20, .inl ns))] := hD
          refine lv_aload_n hx hb dX6_centuries_52 rfl (lv_at hl 0 rfl) ?_
          refine lv_iload_n hx hb dX6_centuries_53 rfl (lv_at hl 2 rfl) ?_
          refine va_put (D := D) (ci := 6) (v := .int seed) (ty := .int) (C := RX6) (T := TX6) (N := 22) hx hb hts hinX6 tyX6 tyX6_ok nmX6 hown hE.1 hP hD hS 0 rfl rfl 13 (by decide) k_4 (fun _ h9 => h9) rfl (by decide +kernel) rfl rfl (Nat.le_of_ble_eq_true rfl) dX6_centuries_54 (fun H locs hP hD hS => ?_)
          have hP : va_P D vwCl [(mo, .inr (6, [.ref apg, .int (nI P), .int ea, .int (nI K), .int (nI Hn), .int ym, .int tm, .ref arw, .ref ans, .ref aro, .ref abo, .int (nI Sm), .ref asi, .int seed, .ref asv, .int kt, .int ky, .int (nI ks), .ref akr, .ref akn, .ref aks, .long ha])), (arw, .inl (cI, 15, .inl rw)), (ans, .inl (cI, 20, .inl ns)), (asv, .inl (cI, 20, .inl ns))] H := hP
          have hD : va_D A [(mo, .inr (6, [.ref apg, .int (nI P), .int ea, .int (nI K), .int (nI Hn), .int ym, .int tm, .ref arw, .ref ans, .ref aro, .ref abo, .int (nI Sm), .ref asi, .int seed, .ref asv, .int kt, .int ky, .int (nI ks), .ref akr, .ref akn, .ref aks, .long ha])), (arw, .inl (cI, 15, .inl rw)), (ans, .inl (cI, 20, .inl ns)), (asv, .inl (cI, 20, .inl ns))] := hD
          refine lv_iconst (v := 0) hx hb dX6_centuries_57 (by decide) ?_
          refine lv_istore (lv' := [(4, .int 0), (0, .ref mo), (1, .int many), (2, .int seed), (3, .int what)]) hx hb dX6_centuries_58 hl (by decide) rfl (fun ls hl => ?_)
          refine lv_iconst (v := 0) hx hb dX6_centuries_60 (by decide) ?_
          refine lv_istore (lv' := [(5, .int 0), (4, .int 0), (0, .ref mo), (1, .int many), (2, .int seed), (3, .int what)]) hx hb dX6_centuries_61 hl (by decide) rfl (fun ls hl => ?_)
          have hc63_1 : ∀ (n : Nat) (y : Nat), (y ≤ my) → (my + 1 ≤ y + n) → ∀ (w4 : Int32), w4 = (cY rw Hn (seed, 0, ns) y).2.1 → ∀ (w5 : Int32), w5 = nI y → ∀ (wn : Nat → Int32), wn = (cY rw Hn (seed, 0, ns) y).2.2 → ∀ (ws : Int32), ws = (cY rw Hn (seed, 0, ns) y).1 → ∀ (H : Heap) (locs : List Loc), va_P D vwCl [(mo, .inr (6, [.ref apg, .int (nI P), .int ea, .int (nI K), .int (nI Hn), .int ym, .int tm, .ref arw, .ref ans, .ref aro, .ref abo, .int (nI Sm), .ref asi, .int ws, .ref asv, .int kt, .int ky, .int (nI ks), .ref akr, .ref akn, .ref aks, .long ha])), (arw, .inl (cI, 15, .inl rw)), (ans, .inl (cI, 20, .inl wn)), (asv, .inl (cI, 20, .inl ns))] H → va_D A [(mo, .inr (6, [.ref apg, .int (nI P), .int ea, .int (nI K), .int (nI Hn), .int ym, .int tm, .ref arw, .ref ans, .ref aro, .ref abo, .int (nI Sm), .ref asi, .int ws, .ref asv, .int kt, .int ky, .int (nI ks), .ref akr, .ref akn, .ref aks, .long ha])), (arw, .inl (cI, 15, .inl rw)), (ans, .inl (cI, 20, .inl wn)), (asv, .inl (cI, 20, .inl ns))] → va_S A s.heap H locs → ∀ (ls : Array Slot), lv_has ls 8 [(5, .int w5), (4, .int w4), (0, .ref mo), (1, .int many), (2, .int seed), (3, .int what)] → W p l e (headSpec wsX6_centuries (zr 4)).room s m ([.ref mo, .int many, .int seed, .int what] : List Value).toArray below meth c H locs 0 0 (MQ below (va_Qi (fun (r : Int32) (_ : Unit) => r = (fCenM rw ns sv Hn sd many seed what).1) (zB D [(mo, .inr (6, [.ref apg, .int (nI P), .int ea, .int (nI K), .int (nI Hn), .int ym, .int tm, .ref arw, .ref ans, .ref aro, .ref abo, .int (nI Sm), .ref asi, .int ((fCenM rw ns sv Hn sd many seed what).2.1), .ref asv, .int kt, .int ky, .int (nI ks), .ref akr, .ref akn, .ref aks, .long ha])), (arw, .inl (cI, 15, .inl rw)), (ans, .inl (cI, 20, .inl ns)), (asv, .inl (cI, 20, .inl ((fCenM rw ns sv Hn sd many seed what).2.2)))] A) A) ([.ref mo, .int many, .int seed, .int what] : List Value).toArray s 0 0 A) (F0 m 63 ls []) := by
            intro n
            induction n with
            | zero => intro y hy hfu; exact absurd hfu (by omega)
            | succ n ihhc63_1 =>
              intro y hy hfu w4 ew4 w5 ew5 wn ewn ws ews H locs hP hD hS ls hl
              subst ew4
              subst ew5
              subst ewn
              subst ews
              have oky := letOk_cY (rw := rw) (q := (seed, 0, ns)) ok y
              refine lv_iload hx hb dX6_centuries_63 (lv_at hl 0 rfl) ?_
              refine lv_iload_n hx hb dX6_centuries_65 rfl (lv_at hl 3 rfl) ?_
              refine lv_icmp_ge (tgt := 215) hx hb dX6_centuries_66 (by decide) (fun c_66 => ?_) (fun c_66 => ?_)
              · have n_66 := zn_le (a := my) (b := y) em rfl c_66 (by omega) (by omega)
                obtain rfl : my = y := by omega
                refine lv_aload_n hx hb dX6_centuries_215 rfl (lv_at hl 2 rfl) ?_
                refine lv_bipush (v := 31) hx hb dX6_centuries_216 (by decide) ?_
                refine z_roVi (As := [.int 31]) (rest := []) ⟨hx, hb, hml, hown, hts⟩ (c_X6_eggsIn l D cI cZ cA mo apg P ea K Hn ym tm arw ans aro abo Sm asi ((cY rw Hn (seed, 0, ns) my).1) asv kt ky ks akr akn aks ha ((cY rw Hn (seed, 0, ns) my).2.2) 31 (by first | assumption | omega)) (cwV 1 hts gX6_centuries_X6_eggsIn rfl rfl rfl (by decide +kernel) ⟨Nat.le_of_ble_eq_true rfl, Nat.le_of_ble_eq_true rfl⟩) hE hP [0, 2] rfl 0 6 rfl rfl rfl hl.1 rfl (Nat.le_of_ble_eq_true rfl) dX6_centuries_218 ⟨Nat.zero_le _, Nat.zero_le _⟩ ?_
                refine lv_istore (lv' := [(5, .int (eInN ((cY rw Hn (seed, 0, ns) my).2.2) 31 Hn)), (4, .int ((cY rw Hn (seed, 0, ns) my).2.1)), (0, .ref mo), (1, .int many), (2, .int seed), (3, .int what)]) hx hb dX6_centuries_221 hl (by decide) rfl (fun ls hl => ?_)
                refine lv_aload_n hx hb dX6_centuries_223 rfl (lv_at hl 2 rfl) ?_
                refine va_get (D := D) (ci := 6) (v := .ref asv) (C := RX6) (T := TX6) (N := 22) hx hb hts hinX6 hown hE.1 hP 0 rfl rfl 14 (by decide) k_3 (fun _ h9 => h9) rfl dX6_centuries_224 ?_
                refine lv_aload_n hx hb dX6_centuries_227 rfl (lv_at hl 2 rfl) ?_
                refine va_get (D := D) (ci := 6) (v := .ref ans) (C := RX6) (T := TX6) (N := 22) hx hb hts hinX6 hown hE.1 hP 0 rfl rfl 8 (by decide) k_2 (fun _ h9 => h9) rfl dX6_centuries_228 ?_
                refine z_rwSv (As := [.ref asv, .ref ans]) (rest := []) (wr := [(mo, .inr (6, [.ref apg, .int (nI P), .int ea, .int (nI K), .int (nI Hn), .int ym, .int tm, .ref arw, .ref ans, .ref aro, .ref abo, .int (nI Sm), .ref asi, .int ((cY rw Hn (seed, 0, ns) my).1), .ref asv, .int kt, .int ky, .int (nI ks), .ref akr, .ref akn, .ref aks, .long ha])), (arw, .inl (cI, 15, .inl rw))]) (w1 := [(asv, .inl (cI, 20, .inl ns)), (ans, .inl (cI, 20, .inl ns))]) ⟨hx, hb, hml, hown, hts⟩ (c_X6_copy l D cI cZ cA _ asv ans 20 ns ((cY rw Hn (seed, 0, ns) my).2.2) (by first | assumption | omega)) (va_cwS 2 hts gX6_centuries_X6_copy rfl rfl rfl (by decide +kernel) ⟨Nat.le_of_ble_eq_true rfl, Nat.le_of_ble_eq_true rfl⟩) hE hP hD hS hA [3, 2] [0, 1] rfl rfl rfl (by decide) (by decide) (by decide) rfl hl.1 rfl (Nat.le_of_ble_eq_true rfl) dX6_centuries_231 ⟨Nat.zero_le _, Nat.zero_le _⟩ (fun H locs hP hD hS => ?_)
                have hP : va_P D vwCl [(mo, .inr (6, [.ref apg, .int (nI P), .int ea, .int (nI K), .int (nI Hn), .int ym, .int tm, .ref arw, .ref ans, .ref aro, .ref abo, .int (nI Sm), .ref asi, .int ((cY rw Hn (seed, 0, ns) my).1), .ref asv, .int kt, .int ky, .int (nI ks), .ref akr, .ref akn, .ref aks, .long ha])), (arw, .inl (cI, 15, .inl rw)), (asv, .inl (cI, 20, .inl ns)), (ans, .inl (cI, 20, .inl ns))] H := hP
                have hD : va_D A [(mo, .inr (6, [.ref apg, .int (nI P), .int ea, .int (nI K), .int (nI Hn), .int ym, .int tm, .ref arw, .ref ans, .ref aro, .ref abo, .int (nI Sm), .ref asi, .int ((cY rw Hn (seed, 0, ns) my).1), .ref asv, .int kt, .int ky, .int (nI ks), .ref akr, .ref akn, .ref aks, .long ha])), (arw, .inl (cI, 15, .inl rw)), (asv, .inl (cI, 20, .inl ns)), (ans, .inl (cI, 20, .inl ns))] := hD
                refine lv_iload_n hx hb dX6_centuries_234 rfl (lv_at hl 5 rfl) ?_
                refine lv_if_ne (tgt := 243) hx hb dX6_centuries_235 (by decide) (fun c_235 => ?_) (fun c_235 => ?_)
                · refine lv_iload_n hx hb dX6_centuries_243 rfl (lv_at hl 5 rfl) ?_
                  refine lv_iconst (v := 1) hx hb dX6_centuries_244 (by decide) ?_
                  refine lv_icmp_ne (tgt := 253) hx hb dX6_centuries_245 (by decide) (fun c_245 => ?_) (fun c_245 => ?_)
                  · refine lv_aload_n hx hb dX6_centuries_253 rfl (lv_at hl 2 rfl) ?_
                    refine va_get (D := D) (ci := 6) (v := .int ((cY rw Hn (seed, 0, ns) my).1)) (C := RX6) (T := TX6) (N := 22) hx hb hts hinX6 hown hE.1 hP 0 rfl rfl 13 (by decide) k_4 (fun _ h9 => h9) rfl dX6_centuries_254 ?_
                    have e9 : (fCenM rw ns sv Hn sd many seed what) = ((cY rw Hn (seed, 0, ns) my).1, (cY rw Hn (seed, 0, ns) my).1, ns) := (by rw [fCenM, if_pos ⟨c_9, c_13, c_25⟩, if_neg c_35, tmy, cenM, if_neg c_235, if_neg c_245])
                    have hP9 := hP.sub (ws' := [(mo, .inr (6, [.ref apg, .int (nI P), .int ea, .int (nI K), .int (nI Hn), .int ym, .int tm, .ref arw, .ref ans, .ref aro, .ref abo, .int (nI Sm), .ref asi, .int ((fCenM rw ns sv Hn sd many seed what).2.1), .ref asv, .int kt, .int ky, .int (nI ks), .ref akr, .ref akn, .ref aks, .long ha])), (arw, .inl (cI, 15, .inl rw)), (ans, .inl (cI, 20, .inl ns)), (asv, .inl (cI, 20, .inl ((fCenM rw ns sv Hn sd many seed what).2.2)))]) [0, 1, 3, 2] (by rw [e9]; try rfl)
                    have hD9 := hD.sub (ws' := [(mo, .inr (6, [.ref apg, .int (nI P), .int ea, .int (nI K), .int (nI Hn), .int ym, .int tm, .ref arw, .ref ans, .ref aro, .ref abo, .int (nI Sm), .ref asi, .int ((fCenM rw ns sv Hn sd many seed what).2.1), .ref asv, .int kt, .int ky, .int (nI ks), .ref akr, .ref akn, .ref aks, .long ha])), (arw, .inl (cI, 15, .inl rw)), (ans, .inl (cI, 20, .inl ns)), (asv, .inl (cI, 20, .inl ((fCenM rw ns sv Hn sd many seed what).2.2)))]) [0, 1, 3, 2] (by decide) (by rw [e9]; try rfl)
                    exact W.iret (v := (cY rw Hn (seed, 0, ns) my).1) hx hb hr (fun t ht hW => ⟨⟨((cY rw Hn (seed, 0, ns) my).1), (), rfl, (by rw [e9]; try rfl), by rw [ht]; exact hP9, hD9⟩, hS.F ht⟩) hS.2.2 dX6_centuries_257
                  · refine lv_iload hx hb dX6_centuries_248 (lv_at hl 0 rfl) ?_
                    refine lv_goto (tgt := 257) hx hb dX6_centuries_250 (by decide) ?_
                    have e9 : (fCenM rw ns sv Hn sd many seed what) = ((eInN ((cY rw Hn (seed, 0, ns) my).2.2) 31 Hn), (cY rw Hn (seed, 0, ns) my).1, ns) := (by rw [fCenM, if_pos ⟨c_9, c_13, c_25⟩, if_neg c_35, tmy, cenM, if_neg c_235, if_pos c_245])
                    have hP9 := hP.sub (ws' := [(mo, .inr (6, [.ref apg, .int (nI P), .int ea, .int (nI K), .int (nI Hn), .int ym, .int tm, .ref arw, .ref ans, .ref aro, .ref abo, .int (nI Sm), .ref asi, .int ((fCenM rw ns sv Hn sd many seed what).2.1), .ref asv, .int kt, .int ky, .int (nI ks), .ref akr, .ref akn, .ref aks, .long ha])), (arw, .inl (cI, 15, .inl rw)), (ans, .inl (cI, 20, .inl ns)), (asv, .inl (cI, 20, .inl ((fCenM rw ns sv Hn sd many seed what).2.2)))]) [0, 1, 3, 2] (by rw [e9]; try rfl)
                    have hD9 := hD.sub (ws' := [(mo, .inr (6, [.ref apg, .int (nI P), .int ea, .int (nI K), .int (nI Hn), .int ym, .int tm, .ref arw, .ref ans, .ref aro, .ref abo, .int (nI Sm), .ref asi, .int ((fCenM rw ns sv Hn sd many seed what).2.1), .ref asv, .int kt, .int ky, .int (nI ks), .ref akr, .ref akn, .ref aks, .long ha])), (arw, .inl (cI, 15, .inl rw)), (ans, .inl (cI, 20, .inl ns)), (asv, .inl (cI, 20, .inl ((fCenM rw ns sv Hn sd many seed what).2.2)))]) [0, 1, 3, 2] (by decide) (by rw [e9]; try rfl)
                    exact W.iret (v := (eInN ((cY rw Hn (seed, 0, ns) my).2.2) 31 Hn)) hx hb hr (fun t ht hW => ⟨⟨(eInN ((cY rw Hn (seed, 0, ns) my).2.2) 31 Hn), (), rfl, (by rw [e9]; try rfl), by rw [ht]; exact hP9, hD9⟩, hS.F ht⟩) hS.2.2 dX6_centuries_257
                · refine lv_iload hx hb dX6_centuries_238 (lv_at hl 1 rfl) ?_
                  refine lv_goto (tgt := 257) hx hb dX6_centuries_240 (by decide) ?_
                  have e9 : (fCenM rw ns sv Hn sd many seed what) = ((cY rw Hn (seed, 0, ns) my).2.1, (cY rw Hn (seed, 0, ns) my).1, ns) := (by rw [fCenM, if_pos ⟨c_9, c_13, c_25⟩, if_neg c_35, tmy, cenM, if_pos c_235])
                  have hP9 := hP.sub (ws' := [(mo, .inr (6, [.ref apg, .int (nI P), .int ea, .int (nI K), .int (nI Hn), .int ym, .int tm, .ref arw, .ref ans, .ref aro, .ref abo, .int (nI Sm), .ref asi, .int ((fCenM rw ns sv Hn sd many seed what).2.1), .ref asv, .int kt, .int ky, .int (nI ks), .ref akr, .ref akn, .ref aks, .long ha])), (arw, .inl (cI, 15, .inl rw)), (ans, .inl (cI, 20, .inl ns)), (asv, .inl (cI, 20, .inl ((fCenM rw ns sv Hn sd many seed what).2.2)))]) [0, 1, 3, 2] (by rw [e9]; try rfl)
                  have hD9 := hD.sub (ws' := [(mo, .inr (6, [.ref apg, .int (nI P), .int ea, .int (nI K), .int (nI Hn), .int ym, .int tm, .ref arw, .ref ans, .ref aro, .ref abo, .int (nI Sm), .ref asi, .int ((fCenM rw ns sv Hn sd many seed what).2.1), .ref asv, .int kt, .int ky, .int (nI ks), .ref akr, .ref akn, .ref aks, .long ha])), (arw, .inl (cI, 15, .inl rw)), (ans, .inl (cI, 20, .inl ns)), (asv, .inl (cI, 20, .inl ((fCenM rw ns sv Hn sd many seed what).2.2)))]) [0, 1, 3, 2] (by decide) (by rw [e9]; try rfl)
                  exact W.iret (v := (cY rw Hn (seed, 0, ns) my).2.1) hx hb hr (fun t ht hW => ⟨⟨((cY rw Hn (seed, 0, ns) my).2.1), (), rfl, (by rw [e9]; try rfl), by rw [ht]; exact hP9, hD9⟩, hS.F ht⟩) hS.2.2 dX6_centuries_257
              · have n_66 := zn_nle (a := my) (b := y) em rfl c_66 (by omega) (by omega)
                refine lv_iconst (v := 0) hx hb dX6_centuries_69 (by decide) ?_
                refine lv_istore (lv' := [(6, .int 0), (5, .int (nI y)), (4, .int ((cY rw Hn (seed, 0, ns) y).2.1)), (0, .ref mo), (1, .int many), (2, .int seed), (3, .int what)]) hx hb dX6_centuries_70 hl (by decide) rfl (fun ls hl => ?_)
                have hc72_2 : ∀ (n : Nat) (h : Nat), (h ≤ Hn) → (Hn + 1 ≤ h + n) → ∀ (w4 : Int32), w4 = (cH rw (cY rw Hn (seed, 0, ns) y) h).2.1 → ∀ (w6 : Int32), w6 = nI h → ∀ (wn : Nat → Int32), wn = (cH rw (cY rw Hn (seed, 0, ns) y) h).2.2 → ∀ (ws : Int32), ws = (cH rw (cY rw Hn (seed, 0, ns) y) h).1 → ∀ (H : Heap) (locs : List Loc), va_P D vwCl [(mo, .inr (6, [.ref apg, .int (nI P), .int ea, .int (nI K), .int (nI Hn), .int ym, .int tm, .ref arw, .ref ans, .ref aro, .ref abo, .int (nI Sm), .ref asi, .int ws, .ref asv, .int kt, .int ky, .int (nI ks), .ref akr, .ref akn, .ref aks, .long ha])), (arw, .inl (cI, 15, .inl rw)), (ans, .inl (cI, 20, .inl wn)), (asv, .inl (cI, 20, .inl ns))] H → va_D A [(mo, .inr (6, [.ref apg, .int (nI P), .int ea, .int (nI K), .int (nI Hn), .int ym, .int tm, .ref arw, .ref ans, .ref aro, .ref abo, .int (nI Sm), .ref asi, .int ws, .ref asv, .int kt, .int ky, .int (nI ks), .ref akr, .ref akn, .ref aks, .long ha])), (arw, .inl (cI, 15, .inl rw)), (ans, .inl (cI, 20, .inl wn)), (asv, .inl (cI, 20, .inl ns))] → va_S A s.heap H locs → ∀ (ls : Array Slot), lv_has ls 8 [(6, .int w6), (5, .int (nI y)), (4, .int w4), (0, .ref mo), (1, .int many), (2, .int seed), (3, .int what)] → W p l e (headSpec wsX6_centuries (zr 4)).room s m ([.ref mo, .int many, .int seed, .int what] : List Value).toArray below meth c H locs 0 0 (MQ below (va_Qi (fun (r : Int32) (_ : Unit) => r = (fCenM rw ns sv Hn sd many seed what).1) (zB D [(mo, .inr (6, [.ref apg, .int (nI P), .int ea, .int (nI K), .int (nI Hn), .int ym, .int tm, .ref arw, .ref ans, .ref aro, .ref abo, .int (nI Sm), .ref asi, .int ((fCenM rw ns sv Hn sd many seed what).2.1), .ref asv, .int kt, .int ky, .int (nI ks), .ref akr, .ref akn, .ref aks, .long ha])), (arw, .inl (cI, 15, .inl rw)), (ans, .inl (cI, 20, .inl ns)), (asv, .inl (cI, 20, .inl ((fCenM rw ns sv Hn sd many seed what).2.2)))] A) A) ([.ref mo, .int many, .int seed, .int what] : List Value).toArray s 0 0 A) (F0 m 72 ls []) := by
                  intro n
                  induction n with
                  | zero => intro h hh hfu; exact absurd hfu (by omega)
                  | succ n ihhc72_2 =>
                    intro h hh hfu w4 ew4 w6 ew6 wn ewn ws ews H locs hP hD hS ls hl
                    subst ew4
                    subst ew6
                    subst ewn
                    subst ews
                    have okh := letOk_cH (rw := rw) oky h
                    refine lv_iload hx hb dX6_centuries_72 (lv_at hl 0 rfl) ?_
                    refine lv_aload_n hx hb dX6_centuries_74 rfl (lv_at hl 3 rfl) ?_
                    refine va_get (D := D) (ci := 6) (v := .int (nI Hn)) (C := RX6) (T := TX6) (N := 22) hx hb hts hinX6 hown hE.1 hP 0 rfl rfl 4 (by decide) k_5 (fun _ h9 => h9) rfl dX6_centuries_75 ?_
                    refine lv_icmp_ge (tgt := 209) hx hb dX6_centuries_78 (by decide) (fun c_78 => ?_) (fun c_78 => ?_)
                    · have n_78 := zn_le (a := Hn) (b := h) rfl rfl c_78 (by omega) (by omega)
                      obtain rfl : Hn = h := by omega
                      refine lv_iinc (v := nI (y + 1)) (lv' := [(5, .int (nI (y + 1))), (6, .int (nI Hn)), (4, .int ((cH rw (cY rw Hn (seed, 0, ns) y) Hn).2.1)), (0, .ref mo), (1, .int many), (2, .int seed), (3, .int what)]) hx hb dX6_centuries_209 hl (k := 1) rfl (nI_add y 1) (by decide) rfl (fun ls hl => ?_)
                      refine lv_goto (tgt := 63) hx hb dX6_centuries_212 (by decide) ?_
                      exact ihhc63_1 (y + 1) (by omega) (by omega) ((cH rw (cY rw Hn (seed, 0, ns) y) Hn).2.1) rfl (nI (y + 1)) rfl ((cH rw (cY rw Hn (seed, 0, ns) y) Hn).2.2) rfl ((cH rw (cY rw Hn (seed, 0, ns) y) Hn).1) rfl _ _ (hP.sub [0, 1, 2, 3] rfl) (hD.sub [0, 1, 2, 3] (by decide) rfl) hS ls (lv_sub hl [0, 2, 3, 4, 5, 6] rfl)
                    · have n_78 := zn_nle (a := Hn) (b := h) rfl rfl c_78 (by omega) (by omega)
                      refine lv_aload_n hx hb dX6_centuries_81 rfl (lv_at hl 3 rfl) ?_
                      refine va_get (D := D) (ci := 6) (v := .ref ans) (C := RX6) (T := TX6) (N := 22) hx hb hts hinX6 hown hE.1 hP 0 rfl rfl 8 (by decide) k_2 (fun _ h9 => h9) rfl dX6_centuries_82 ?_
                      refine lv_iconst (v := 4) hx hb dX6_centuries_85 (by decide) ?_
                      refine lv_iload hx hb dX6_centuries_86 (lv_at hl 0 rfl) ?_
                      refine z_imulN hx hb (a := 4) (b := h) rfl rfl dX6_centuries_88 ?_
                      refine lv_iconst (v := 1) hx hb dX6_centuries_89 (by decide) ?_
                      refine z_iaddN hx hb (a := 4 * h) (b := 1) rfl rfl dX6_centuries_90 ?_
                      refine z_iald hx hb hE hP 2 rfl (j := (4 * h) + 1) rfl (by omega) (by decide) dX6_centuries_91 ?_
                      refine lv_iconst (v := (-1)) hx hb dX6_centuries_92 (by decide) ?_
                      refine lv_icmp_eq (tgt := 203) hx hb dX6_centuries_93 (by decide) (fun c_93 => ?_) (fun c_93 => ?_)
                      · refine lv_iinc (v := nI (h + 1)) (lv' := [(6, .int (nI (h + 1))), (5, .int (nI y)), (4, .int ((cH rw (cY rw Hn (seed, 0, ns) y) h).2.1)), (0, .ref mo), (1, .int many), (2, .int seed), (3, .int what)]) hx hb dX6_centuries_203 hl (k := 0) rfl (nI_add h 1) (by decide) rfl (fun ls hl => ?_)
                        refine lv_goto (tgt := 72) hx hb dX6_centuries_206 (by decide) ?_
                        exact ihhc72_2 (h + 1) (by omega) (by omega) ((cH rw (cY rw Hn (seed, 0, ns) y) h).2.1) (by rw [cH]; unfold cSt; simp [c_93]) (nI (h + 1)) rfl ((cH rw (cY rw Hn (seed, 0, ns) y) h).2.2) (by rw [cH]; unfold cSt; simp [c_93]) ((cH rw (cY rw Hn (seed, 0, ns) y) h).1) (by rw [cH]; unfold cSt; simp [c_93]) _ _ (hP.sub [0, 1, 2, 3] rfl) (hD.sub [0, 1, 2, 3] (by decide) rfl) hS ls (lv_sub hl [0, 1, 2, 3, 4, 5, 6] rfl)
                      · obtain ⟨k0, hk0, ek⟩ := (okh h (by omega)).resolve_left c_93
                        have tk : ((cH rw (cY rw Hn (seed, 0, ns) y) h).2.2 (4 * h + 1)).toNatClampNeg = k0 := by rw [ek, nI_clamp (by omega)]
                        refine lv_aload_n hx hb dX6_centuries_96 rfl (lv_at hl 3 rfl) ?_
                        refine lv_bipush (v := 10) hx hb dX6_centuries_97 (by decide) ?_
                        refine z_rwVi (As := [.int 10]) (rest := []) (wr := [(arw, .inl (cI, 15, .inl rw)), (ans, .inl (cI, 20, .inl ((cH rw (cY rw Hn (seed, 0, ns) y) h).2.2))), (asv, .inl (cI, 20, .inl ns))]) (w1 := [(mo, .inr (6, [.ref apg, .int (nI P), .int ea, .int (nI K), .int (nI Hn), .int ym, .int tm, .ref arw, .ref ans, .ref aro, .ref abo, .int (nI Sm), .ref asi, .int (drM ((cH rw (cY rw Hn (seed, 0, ns) y) h).1)), .ref asv, .int kt, .int ky, .int (nI ks), .ref akr, .ref akn, .ref aks, .long ha]))]) ⟨hx, hb, hml, hown, hts⟩ (c_X6_draw l D cI cZ cA _ mo apg P ea K Hn ym tm arw ans aro abo Sm asi ((cH rw (cY rw Hn (seed, 0, ns) y) h).1) asv kt ky ks akr akn aks ha ) (cwV 1 hts gX6_centuries_X6_draw rfl rfl rfl (by decide +kernel) ⟨Nat.le_of_ble_eq_true rfl, Nat.le_of_ble_eq_true rfl⟩) hE hP hD hS hA [0] [1, 2, 3] rfl rfl rfl (by decide) (by decide) (by decide) 0 6 rfl rfl rfl hl.1 rfl (Nat.le_of_ble_eq_true rfl) dX6_centuries_99 ⟨Nat.zero_le _, Nat.zero_le _⟩ (fun H locs hP hD hS => ?_)
                        have hP : va_P D vwCl [(arw, .inl (cI, 15, .inl rw)), (ans, .inl (cI, 20, .inl ((cH rw (cY rw Hn (seed, 0, ns) y) h).2.2))), (asv, .inl (cI, 20, .inl ns)), (mo, .inr (6, [.ref apg, .int (nI P), .int ea, .int (nI K), .int (nI Hn), .int ym, .int tm, .ref arw, .ref ans, .ref aro, .ref abo, .int (nI Sm), .ref asi, .int (drM ((cH rw (cY rw Hn (seed, 0, ns) y) h).1)), .ref asv, .int kt, .int ky, .int (nI ks), .ref akr, .ref akn, .ref aks, .long ha]))] H := hP
                        have hD : va_D A [(arw, .inl (cI, 15, .inl rw)), (ans, .inl (cI, 20, .inl ((cH rw (cY rw Hn (seed, 0, ns) y) h).2.2))), (asv, .inl (cI, 20, .inl ns)), (mo, .inr (6, [.ref apg, .int (nI P), .int ea, .int (nI K), .int (nI Hn), .int ym, .int tm, .ref arw, .ref ans, .ref aro, .ref abo, .int (nI Sm), .ref asi, .int (drM ((cH rw (cY rw Hn (seed, 0, ns) y) h).1)), .ref asv, .int kt, .int ky, .int (nI ks), .ref akr, .ref akn, .ref aks, .long ha]))] := hD
                        refine lv_aload_n hx hb dX6_centuries_102 rfl (lv_at hl 3 rfl) ?_
                        refine lv_iload hx hb dX6_centuries_103 (lv_at hl 0 rfl) ?_
                        refine z_roVi (As := [.int (nI h)]) (rest := [.int (drM ((cH rw (cY rw Hn (seed, 0, ns) y) h).1) / 65536 - drM ((cH rw (cY rw Hn (seed, 0, ns) y) h).1) / 65536 / 10 * 10)]) ⟨hx, hb, hml, hown, hts⟩ (c_X6_tenthsIn l D cI cZ cA mo apg P ea K Hn ym tm arw ans aro abo Sm asi (drM ((cH rw (cY rw Hn (seed, 0, ns) y) h).1)) asv kt ky ks akr akn aks ha rw ((cH rw (cY rw Hn (seed, 0, ns) y) h).2.2) h hK (by omega) hH okh) (cwV 1 hts gX6_centuries_X6_tenthsIn rfl rfl rfl (by decide +kernel) ⟨Nat.le_of_ble_eq_true rfl, Nat.le_of_ble_eq_true rfl⟩) hE hP [3, 0, 1] rfl 0 6 rfl rfl rfl hl.1 rfl (Nat.le_of_ble_eq_true rfl) dX6_centuries_105 ⟨Nat.zero_le _, Nat.zero_le _⟩ ?_
                        refine lv_icmp_ge (tgt := 115) hx hb dX6_centuries_108 (by decide) (fun c_108 => ?_) (fun c_108 => ?_)
                        · refine lv_iconst (v := 0) hx hb dX6_centuries_115 (by decide) ?_
                          refine lv_istore (lv' := [(7, .int 0), (6, .int (nI h)), (5, .int (nI y)), (4, .int ((cH rw (cY rw Hn (seed, 0, ns) y) h).2.1)), (0, .ref mo), (1, .int many), (2, .int seed), (3, .int what)]) hx hb dX6_centuries_116 hl (by decide) rfl (fun ls hl => ?_)
                          refine lv_iload hx hb dX6_centuries_118 (lv_at hl 3 rfl) ?_
                          refine lv_iload hx hb dX6_centuries_120 (lv_at hl 0 rfl) ?_
                          refine lv_if_eq (tgt := 129) hx hb dX6_centuries_122 (by decide) (fun c_122 => ?_) (fun c_122 => ?_)
                          · refine lv_iconst (v := 1) hx hb dX6_centuries_129 (by decide) ?_
                            refine lv_iadd hx hb dX6_centuries_130 ?_
                            refine lv_istore (lv' := [(4, .int (((cH rw (cY rw Hn (seed, 0, ns) y) h).2.1) + 1)), (7, .int 0), (6, .int (nI h)), (5, .int (nI y)), (0, .ref mo), (1, .int many), (2, .int seed), (3, .int what)]) hx hb dX6_centuries_131 hl (by decide) rfl (fun ls hl => ?_)
                            refine lv_aload_n hx hb dX6_centuries_133 rfl (lv_at hl 4 rfl) ?_
                            refine va_get (D := D) (ci := 6) (v := .ref ans) (C := RX6) (T := TX6) (N := 22) hx hb hts hinX6 hown hE.1 hP 3 rfl rfl 8 (by decide) k_2 (fun _ h9 => h9) rfl dX6_centuries_134 ?_
                            refine lv_iconst (v := 4) hx hb dX6_centuries_137 (by decide) ?_
                            refine lv_iload hx hb dX6_centuries_138 (lv_at hl 2 rfl) ?_
                            refine z_imulN hx hb (a := 4) (b := h) rfl rfl dX6_centuries_140 ?_
                            refine lv_iconst (v := 3) hx hb dX6_centuries_141 (by decide) ?_
                            refine z_iaddN hx hb (a := 4 * h) (b := 3) rfl rfl dX6_centuries_142 ?_
                            refine lv_dup2_11 hx hb dX6_centuries_143 rfl rfl ?_
                            refine z_iald hx hb hE hP 1 rfl (j := (4 * h) + 3) rfl (by omega) (by decide) dX6_centuries_144 ?_
                            refine lv_iload hx hb dX6_centuries_145 (lv_at hl 1 rfl) ?_
                            refine lv_if_eq (tgt := 154) hx hb dX6_centuries_147 (by decide) (fun c_147 => ?_) (fun c_147 => ?_)
                            · refine lv_iconst (v := 0) hx hb dX6_centuries_154 (by decide) ?_
                              refine lv_imul hx hb dX6_centuries_155 ?_
                              refine z_iast hx hb hE hP hD hS 1 rfl (j := (4 * h) + 3) rfl (by omega) (by decide) dX6_centuries_156 (fun H locs hP hD hS => ?_)
                              have hP : va_P D vwCl [(arw, .inl (cI, 15, .inl rw)), (ans, .inl (cI, 20, .inl (upd ((cH rw (cY rw Hn (seed, 0, ns) y) h).2.2) ((4 * h) + 3) ((((cH rw (cY rw Hn (seed, 0, ns) y) h).2.2) ((4 * h) + 3)) * 0)))), (asv, .inl (cI, 20, .inl ns)), (mo, .inr (6, [.ref apg, .int (nI P), .int ea, .int (nI K), .int (nI Hn), .int ym, .int tm, .ref arw, .ref ans, .ref aro, .ref abo, .int (nI Sm), .ref asi, .int (drM ((cH rw (cY rw Hn (seed, 0, ns) y) h).1)), .ref asv, .int kt, .int ky, .int (nI ks), .ref akr, .ref akn, .ref aks, .long ha]))] H := hP
                              have hD : va_D A [(arw, .inl (cI, 15, .inl rw)), (ans, .inl (cI, 20, .inl (upd ((cH rw (cY rw Hn (seed, 0, ns) y) h).2.2) ((4 * h) + 3) ((((cH rw (cY rw Hn (seed, 0, ns) y) h).2.2) ((4 * h) + 3)) * 0)))), (asv, .inl (cI, 20, .inl ns)), (mo, .inr (6, [.ref apg, .int (nI P), .int ea, .int (nI K), .int (nI Hn), .int ym, .int tm, .ref arw, .ref ans, .ref aro, .ref abo, .int (nI Sm), .ref asi, .int (drM ((cH rw (cY rw Hn (seed, 0, ns) y) h).1)), .ref asv, .int kt, .int ky, .int (nI ks), .ref akr, .ref akn, .ref aks, .long ha]))] := hD
                              refine lv_aload_n hx hb dX6_centuries_157 rfl (lv_at hl 4 rfl) ?_
                              refine va_get (D := D) (ci := 6) (v := .ref ans) (C := RX6) (T := TX6) (N := 22) hx hb hts hinX6 hown hE.1 hP 3 rfl rfl 8 (by decide) k_2 (fun _ h9 => h9) rfl dX6_centuries_158 ?_
                              refine lv_iconst (v := 4) hx hb dX6_centuries_161 (by decide) ?_
                              refine lv_iload hx hb dX6_centuries_162 (lv_at hl 2 rfl) ?_
                              refine z_imulN hx hb (a := 4) (b := h) rfl rfl dX6_centuries_164 ?_
                              refine lv_iconst (v := 3) hx hb dX6_centuries_165 (by decide) ?_
                              refine z_iaddN hx hb (a := 4 * h) (b := 3) rfl rfl dX6_centuries_166 ?_
                              refine lv_dup2_11 hx hb dX6_centuries_167 rfl rfl ?_
                              refine z_iald hx hb hE hP 1 rfl (j := (4 * h) + 3) rfl (by omega) (by decide) dX6_centuries_168 ?_
                              refine lv_iload hx hb dX6_centuries_169 (lv_at hl 1 rfl) ?_
                              refine lv_if_eq (tgt := 200) hx hb dX6_centuries_171 (by decide) (fun c_171 => ?_) (fun c_171 => ?_)
                              · refine lv_iconst (v := 0) hx hb dX6_centuries_200 (by decide) ?_
                                refine lv_iadd hx hb dX6_centuries_201 ?_
                                refine z_iast hx hb hE hP hD hS 1 rfl (j := (4 * h) + 3) rfl (by omega) (by decide) dX6_centuries_202 (fun H locs hP hD hS => ?_)
                                have hP : va_P D vwCl [(arw, .inl (cI, 15, .inl rw)), (ans, .inl (cI, 20, .inl (upd (upd ((cH rw (cY rw Hn (seed, 0, ns) y) h).2.2) ((4 * h) + 3) ((((cH rw (cY rw Hn (seed, 0, ns) y) h).2.2) ((4 * h) + 3)) * 0)) ((4 * h) + 3) (((upd ((cH rw (cY rw Hn (seed, 0, ns) y) h).2.2) ((4 * h) + 3) ((((cH rw (cY rw Hn (seed, 0, ns) y) h).2.2) ((4 * h) + 3)) * 0)) ((4 * h) + 3)) + 0)))), (asv, .inl (cI, 20, .inl ns)), (mo, .inr (6, [.ref apg, .int (nI P), .int ea, .int (nI K), .int (nI Hn), .int ym, .int tm, .ref arw, .ref ans, .ref aro, .ref abo, .int (nI Sm), .ref asi, .int (drM ((cH rw (cY rw Hn (seed, 0, ns) y) h).1)), .ref asv, .int kt, .int ky, .int (nI ks), .ref akr, .ref akn, .ref aks, .long ha]))] H := hP
                                have hD : va_D A [(arw, .inl (cI, 15, .inl rw)), (ans, .inl (cI, 20, .inl (upd (upd ((cH rw (cY rw Hn (seed, 0, ns) y) h).2.2) ((4 * h) + 3) ((((cH rw (cY rw Hn (seed, 0, ns) y) h).2.2) ((4 * h) + 3)) * 0)) ((4 * h) + 3) (((upd ((cH rw (cY rw Hn (seed, 0, ns) y) h).2.2) ((4 * h) + 3) ((((cH rw (cY rw Hn (seed, 0, ns) y) h).2.2) ((4 * h) + 3)) * 0)) ((4 * h) + 3)) + 0)))), (asv, .inl (cI, 20, .inl ns)), (mo, .inr (6, [.ref apg, .int (nI P), .int ea, .int (nI K), .int (nI Hn), .int ym, .int tm, .ref arw, .ref ans, .ref aro, .ref abo, .int (nI Sm), .ref asi, .int (drM ((cH rw (cY rw Hn (seed, 0, ns) y) h).1)), .ref asv, .int kt, .int ky, .int (nI ks), .ref akr, .ref akn, .ref aks, .long ha]))] := hD
                                refine lv_iinc (v := nI (h + 1)) (lv' := [(6, .int (nI (h + 1))), (4, .int (((cH rw (cY rw Hn (seed, 0, ns) y) h).2.1) + 1)), (7, .int 0), (5, .int (nI y)), (0, .ref mo), (1, .int many), (2, .int seed), (3, .int what)]) hx hb dX6_centuries_203 hl (k := 2) rfl (nI_add h 1) (by decide) rfl (fun ls hl => ?_)
                                refine lv_goto (tgt := 72) hx hb dX6_centuries_206 (by decide) ?_
                                exact ihhc72_2 (h + 1) (by omega) (by omega) (((cH rw (cY rw Hn (seed, 0, ns) y) h).2.1) + 1) (by rw [cH]; unfold cSt cDr; simp only [if_neg c_93]; first | rw [if_pos c_108] | rw [if_neg c_108]) (nI (h + 1)) rfl (upd (upd ((cH rw (cY rw Hn (seed, 0, ns) y) h).2.2) ((4 * h) + 3) ((((cH rw (cY rw Hn (seed, 0, ns) y) h).2.2) ((4 * h) + 3)) * 0)) ((4 * h) + 3) (((upd ((cH rw (cY rw Hn (seed, 0, ns) y) h).2.2) ((4 * h) + 3) ((((cH rw (cY rw Hn (seed, 0, ns) y) h).2.2) ((4 * h) + 3)) * 0)) ((4 * h) + 3)) + 0)) (by rw [cH]; unfold cSt cDr; simp only [if_neg c_93]; rw [if_pos c_108]) (drM ((cH rw (cY rw Hn (seed, 0, ns) y) h).1)) (by rw [cH]; unfold cSt cDr; simp only [if_neg c_93]; first | rw [if_pos c_108] | rw [if_neg c_108]) _ _ (hP.sub [3, 0, 1, 2] rfl) (hD.sub [3, 0, 1, 2] (by decide) rfl) hS ls (lv_sub hl [0, 3, 1, 4, 5, 6, 7] rfl)
                              · exact absurd c_171 (by decide)
                            · exact absurd c_147 (by decide)
                          · exact absurd c_122 (by decide)
                        · refine lv_iconst (v := 1) hx hb dX6_centuries_111 (by decide) ?_
                          refine lv_goto (tgt := 116) hx hb dX6_centuries_112 (by decide) ?_
                          refine lv_istore (lv' := [(7, .int 1), (6, .int (nI h)), (5, .int (nI y)), (4, .int ((cH rw (cY rw Hn (seed, 0, ns) y) h).2.1)), (0, .ref mo), (1, .int many), (2, .int seed), (3, .int what)]) hx hb dX6_centuries_116 hl (by decide) rfl (fun ls hl => ?_)
                          refine lv_iload hx hb dX6_centuries_118 (lv_at hl 3 rfl) ?_
                          refine lv_iload hx hb dX6_centuries_120 (lv_at hl 0 rfl) ?_
                          refine lv_if_eq (tgt := 129) hx hb dX6_centuries_122 (by decide) (fun c_122 => ?_) (fun c_122 => ?_)
                          · exact absurd c_122 (by decide)
                          · refine lv_iconst (v := 0) hx hb dX6_centuries_125 (by decide) ?_
                            refine lv_goto (tgt := 130) hx hb dX6_centuries_126 (by decide) ?_
                            refine lv_iadd hx hb dX6_centuries_130 ?_
                            refine lv_istore (lv' := [(4, .int (((cH rw (cY rw Hn (seed, 0, ns) y) h).2.1) + 0)), (7, .int 1), (6, .int (nI h)), (5, .int (nI y)), (0, .ref mo), (1, .int many), (2, .int seed), (3, .int what)]) hx hb dX6_centuries_131 hl (by decide) rfl (fun ls hl => ?_)
                            refine lv_aload_n hx hb dX6_centuries_133 rfl (lv_at hl 4 rfl) ?_
                            refine va_get (D := D) (ci := 6) (v := .ref ans) (C := RX6) (T := TX6) (N := 22) hx hb hts hinX6 hown hE.1 hP 3 rfl rfl 8 (by decide) k_2 (fun _ h9 => h9) rfl dX6_centuries_134 ?_
                            refine lv_iconst (v := 4) hx hb dX6_centuries_137 (by decide) ?_
                            refine lv_iload hx hb dX6_centuries_138 (lv_at hl 2 rfl) ?_
                            refine z_imulN hx hb (a := 4) (b := h) rfl rfl dX6_centuries_140 ?_
                            refine lv_iconst (v := 3) hx hb dX6_centuries_141 (by decide) ?_
                            refine z_iaddN hx hb (a := 4 * h) (b := 3) rfl rfl dX6_centuries_142 ?_
                            refine lv_dup2_11 hx hb dX6_centuries_143 rfl rfl ?_
                            refine z_iald hx hb hE hP 1 rfl (j := (4 * h) + 3) rfl (by omega) (by decide) dX6_centuries_144 ?_
                            refine lv_iload hx hb dX6_centuries_145 (lv_at hl 1 rfl) ?_
                            refine lv_if_eq (tgt := 154) hx hb dX6_centuries_147 (by decide) (fun c_147 => ?_) (fun c_147 => ?_)
                            · exact absurd c_147 (by decide)
                            · refine lv_iconst (v := 1) hx hb dX6_centuries_150 (by decide) ?_
                              refine lv_goto (tgt := 155) hx hb dX6_centuries_151 (by decide) ?_
                              refine lv_imul hx hb dX6_centuries_155 ?_
                              refine z_iast hx hb hE hP hD hS 1 rfl (j := (4 * h) + 3) rfl (by omega) (by decide) dX6_centuries_156 (fun H locs hP hD hS => ?_)
                              have hP : va_P D vwCl [(arw, .inl (cI, 15, .inl rw)), (ans, .inl (cI, 20, .inl (upd ((cH rw (cY rw Hn (seed, 0, ns) y) h).2.2) ((4 * h) + 3) ((((cH rw (cY rw Hn (seed, 0, ns) y) h).2.2) ((4 * h) + 3)) * 1)))), (asv, .inl (cI, 20, .inl ns)), (mo, .inr (6, [.ref apg, .int (nI P), .int ea, .int (nI K), .int (nI Hn), .int ym, .int tm, .ref arw, .ref ans, .ref aro, .ref abo, .int (nI Sm), .ref asi, .int (drM ((cH rw (cY rw Hn (seed, 0, ns) y) h).1)), .ref asv, .int kt, .int ky, .int (nI ks), .ref akr, .ref akn, .ref aks, .long ha]))] H := hP
                              have hD : va_D A [(arw, .inl (cI, 15, .inl rw)), (ans, .inl (cI, 20, .inl (upd ((cH rw (cY rw Hn (seed, 0, ns) y) h).2.2) ((4 * h) + 3) ((((cH rw (cY rw Hn (seed, 0, ns) y) h).2.2) ((4 * h) + 3)) * 1)))), (asv, .inl (cI, 20, .inl ns)), (mo, .inr (6, [.ref apg, .int (nI P), .int ea, .int (nI K), .int (nI Hn), .int ym, .int tm, .ref arw, .ref ans, .ref aro, .ref abo, .int (nI Sm), .ref asi, .int (drM ((cH rw (cY rw Hn (seed, 0, ns) y) h).1)), .ref asv, .int kt, .int ky, .int (nI ks), .ref akr, .ref akn, .ref aks, .long ha]))] := hD
                              refine lv_aload_n hx hb dX6_centuries_157 rfl (lv_at hl 4 rfl) ?_
                              refine va_get (D := D) (ci := 6) (v := .ref ans) (C := RX6) (T := TX6) (N := 22) hx hb hts hinX6 hown hE.1 hP 3 rfl rfl 8 (by decide) k_2 (fun _ h9 => h9) rfl dX6_centuries_158 ?_
                              refine lv_iconst (v := 4) hx hb dX6_centuries_161 (by decide) ?_
                              refine lv_iload hx hb dX6_centuries_162 (lv_at hl 2 rfl) ?_
                              refine z_imulN hx hb (a := 4) (b := h) rfl rfl dX6_centuries_164 ?_
                              refine lv_iconst (v := 3) hx hb dX6_centuries_165 (by decide) ?_
                              refine z_iaddN hx hb (a := 4 * h) (b := 3) rfl rfl dX6_centuries_166 ?_
                              refine lv_dup2_11 hx hb dX6_centuries_167 rfl rfl ?_
                              refine z_iald hx hb hE hP 1 rfl (j := (4 * h) + 3) rfl (by omega) (by decide) dX6_centuries_168 ?_
                              refine lv_iload hx hb dX6_centuries_169 (lv_at hl 1 rfl) ?_
                              refine lv_if_eq (tgt := 200) hx hb dX6_centuries_171 (by decide) (fun c_171 => ?_) (fun c_171 => ?_)
                              · exact absurd c_171 (by decide)
                              · refine lv_aload_n hx hb dX6_centuries_174 rfl (lv_at hl 4 rfl) ?_
                                refine va_get (D := D) (ci := 6) (v := .ref arw) (C := RX6) (T := TX6) (N := 22) hx hb hts hinX6 hown hE.1 hP 3 rfl rfl 7 (by decide) k_6 (fun _ h9 => h9) rfl dX6_centuries_175 ?_
                                refine lv_iconst (v := 3) hx hb dX6_centuries_178 (by decide) ?_
                                refine lv_aload_n hx hb dX6_centuries_179 rfl (lv_at hl 4 rfl) ?_
                                refine va_get (D := D) (ci := 6) (v := .ref ans) (C := RX6) (T := TX6) (N := 22) hx hb hts hinX6 hown hE.1 hP 3 rfl rfl 8 (by decide) k_2 (fun _ h9 => h9) rfl dX6_centuries_180 ?_
                                refine lv_iconst (v := 4) hx hb dX6_centuries_183 (by decide) ?_
                                refine lv_iload hx hb dX6_centuries_184 (lv_at hl 2 rfl) ?_
                                refine z_imulN hx hb (a := 4) (b := h) rfl rfl dX6_centuries_186 ?_
                                refine lv_iconst (v := 1) hx hb dX6_centuries_187 (by decide) ?_
                                refine z_iaddN hx hb (a := 4 * h) (b := 1) rfl rfl dX6_centuries_188 ?_
                                refine z_iald hx hb hE hP 1 rfl (j := (4 * h) + 1) rfl (by omega) (by decide) dX6_centuries_189 ?_
                                have ek2 : (upd ((cH rw (cY rw Hn (seed, 0, ns) y) h).2.2) ((4 * h) + 3) ((((cH rw (cY rw Hn (seed, 0, ns) y) h).2.2) ((4 * h) + 3)) * 1)) ((4 * h) + 1) = nI k0 := by rw [upd_ne (by omega)]; exact ek
                                refine z_imulN hx hb (a := 3) (b := k0) rfl ek2 dX6_centuries_190 ?_
                                refine z_iald hx hb hE hP 0 rfl (j := 3 * k0) rfl (by omega) (by decide) dX6_centuries_191 ?_
                                refine lv_iconst (v := 2) hx hb dX6_centuries_192 (by decide) ?_
                                refine lv_icmp_eq (tgt := 200) hx hb dX6_centuries_193 (by decide) (fun c_193 => ?_) (fun c_193 => ?_)
                                · refine lv_iconst (v := 0) hx hb dX6_centuries_200 (by decide) ?_
                                  refine lv_iadd hx hb dX6_centuries_201 ?_
                                  refine z_iast hx hb hE hP hD hS 1 rfl (j := (4 * h) + 3) rfl (by omega) (by decide) dX6_centuries_202 (fun H locs hP hD hS => ?_)
                                  have hP : va_P D vwCl [(arw, .inl (cI, 15, .inl rw)), (ans, .inl (cI, 20, .inl (upd (upd ((cH rw (cY rw Hn (seed, 0, ns) y) h).2.2) ((4 * h) + 3) ((((cH rw (cY rw Hn (seed, 0, ns) y) h).2.2) ((4 * h) + 3)) * 1)) ((4 * h) + 3) (((upd ((cH rw (cY rw Hn (seed, 0, ns) y) h).2.2) ((4 * h) + 3) ((((cH rw (cY rw Hn (seed, 0, ns) y) h).2.2) ((4 * h) + 3)) * 1)) ((4 * h) + 3)) + 0)))), (asv, .inl (cI, 20, .inl ns)), (mo, .inr (6, [.ref apg, .int (nI P), .int ea, .int (nI K), .int (nI Hn), .int ym, .int tm, .ref arw, .ref ans, .ref aro, .ref abo, .int (nI Sm), .ref asi, .int (drM ((cH rw (cY rw Hn (seed, 0, ns) y) h).1)), .ref asv, .int kt, .int ky, .int (nI ks), .ref akr, .ref akn, .ref aks, .long ha]))] H := hP
                                  have hD : va_D A [(arw, .inl (cI, 15, .inl rw)), (ans, .inl (cI, 20, .inl (upd (upd ((cH rw (cY rw Hn (seed, 0, ns) y) h).2.2) ((4 * h) + 3) ((((cH rw (cY rw Hn (seed, 0, ns) y) h).2.2) ((4 * h) + 3)) * 1)) ((4 * h) + 3) (((upd ((cH rw (cY rw Hn (seed, 0, ns) y) h).2.2) ((4 * h) + 3) ((((cH rw (cY rw Hn (seed, 0, ns) y) h).2.2) ((4 * h) + 3)) * 1)) ((4 * h) + 3)) + 0)))), (asv, .inl (cI, 20, .inl ns)), (mo, .inr (6, [.ref apg, .int (nI P), .int ea, .int (nI K), .int (nI Hn), .int ym, .int tm, .ref arw, .ref ans, .ref aro, .ref abo, .int (nI Sm), .ref asi, .int (drM ((cH rw (cY rw Hn (seed, 0, ns) y) h).1)), .ref asv, .int kt, .int ky, .int (nI ks), .ref akr, .ref akn, .ref aks, .long ha]))] := hD
                                  refine lv_iinc (v := nI (h + 1)) (lv' := [(6, .int (nI (h + 1))), (4, .int (((cH rw (cY rw Hn (seed, 0, ns) y) h).2.1) + 0)), (7, .int 1), (5, .int (nI y)), (0, .ref mo), (1, .int many), (2, .int seed), (3, .int what)]) hx hb dX6_centuries_203 hl (k := 2) rfl (nI_add h 1) (by decide) rfl (fun ls hl => ?_)
                                  refine lv_goto (tgt := 72) hx hb dX6_centuries_206 (by decide) ?_
                                  exact ihhc72_2 (h + 1) (by omega) (by omega) (((cH rw (cY rw Hn (seed, 0, ns) y) h).2.1) + 0) (by rw [cH]; unfold cSt cDr; simp only [if_neg c_93]; first | rw [if_pos c_108] | rw [if_neg c_108]) (nI (h + 1)) rfl (upd (upd ((cH rw (cY rw Hn (seed, 0, ns) y) h).2.2) ((4 * h) + 3) ((((cH rw (cY rw Hn (seed, 0, ns) y) h).2.2) ((4 * h) + 3)) * 1)) ((4 * h) + 3) (((upd ((cH rw (cY rw Hn (seed, 0, ns) y) h).2.2) ((4 * h) + 3) ((((cH rw (cY rw Hn (seed, 0, ns) y) h).2.2) ((4 * h) + 3)) * 1)) ((4 * h) + 3)) + 0)) (by rw [cH]; unfold cSt cDr; simp only [if_neg c_93]; first | rw [if_pos c_108] | rw [if_neg c_108, tk, if_pos c_193]) (drM ((cH rw (cY rw Hn (seed, 0, ns) y) h).1)) (by rw [cH]; unfold cSt cDr; simp only [if_neg c_93]; first | rw [if_pos c_108] | rw [if_neg c_108]) _ _ (hP.sub [3, 0, 1, 2] rfl) (hD.sub [3, 0, 1, 2] (by decide) rfl) hS ls (lv_sub hl [0, 3, 1, 4, 5, 6, 7] rfl)
                                · refine lv_iconst (v := 1) hx hb dX6_centuries_196 (by decide) ?_
                                  refine lv_goto (tgt := 201) hx hb dX6_centuries_197 (by decide) ?_
                                  refine lv_iadd hx hb dX6_centuries_201 ?_
                                  refine z_iast hx hb hE hP hD hS 1 rfl (j := (4 * h) + 3) rfl (by omega) (by decide) dX6_centuries_202 (fun H locs hP hD hS => ?_)
                                  have hP : va_P D vwCl [(arw, .inl (cI, 15, .inl rw)), (ans, .inl (cI, 20, .inl (upd (upd ((cH rw (cY rw Hn (seed, 0, ns) y) h).2.2) ((4 * h) + 3) ((((cH rw (cY rw Hn (seed, 0, ns) y) h).2.2) ((4 * h) + 3)) * 1)) ((4 * h) + 3) (((upd ((cH rw (cY rw Hn (seed, 0, ns) y) h).2.2) ((4 * h) + 3) ((((cH rw (cY rw Hn (seed, 0, ns) y) h).2.2) ((4 * h) + 3)) * 1)) ((4 * h) + 3)) + 1)))), (asv, .inl (cI, 20, .inl ns)), (mo, .inr (6, [.ref apg, .int (nI P), .int ea, .int (nI K), .int (nI Hn), .int ym, .int tm, .ref arw, .ref ans, .ref aro, .ref abo, .int (nI Sm), .ref asi, .int (drM ((cH rw (cY rw Hn (seed, 0, ns) y) h).1)), .ref asv, .int kt, .int ky, .int (nI ks), .ref akr, .ref akn, .ref aks, .long ha]))] H := hP
                                  have hD : va_D A [(arw, .inl (cI, 15, .inl rw)), (ans, .inl (cI, 20, .inl (upd (upd ((cH rw (cY rw Hn (seed, 0, ns) y) h).2.2) ((4 * h) + 3) ((((cH rw (cY rw Hn (seed, 0, ns) y) h).2.2) ((4 * h) + 3)) * 1)) ((4 * h) + 3) (((upd ((cH rw (cY rw Hn (seed, 0, ns) y) h).2.2) ((4 * h) + 3) ((((cH rw (cY rw Hn (seed, 0, ns) y) h).2.2) ((4 * h) + 3)) * 1)) ((4 * h) + 3)) + 1)))), (asv, .inl (cI, 20, .inl ns)), (mo, .inr (6, [.ref apg, .int (nI P), .int ea, .int (nI K), .int (nI Hn), .int ym, .int tm, .ref arw, .ref ans, .ref aro, .ref abo, .int (nI Sm), .ref asi, .int (drM ((cH rw (cY rw Hn (seed, 0, ns) y) h).1)), .ref asv, .int kt, .int ky, .int (nI ks), .ref akr, .ref akn, .ref aks, .long ha]))] := hD
                                  refine lv_iinc (v := nI (h + 1)) (lv' := [(6, .int (nI (h + 1))), (4, .int (((cH rw (cY rw Hn (seed, 0, ns) y) h).2.1) + 0)), (7, .int 1), (5, .int (nI y)), (0, .ref mo), (1, .int many), (2, .int seed), (3, .int what)]) hx hb dX6_centuries_203 hl (k := 2) rfl (nI_add h 1) (by decide) rfl (fun ls hl => ?_)
                                  refine lv_goto (tgt := 72) hx hb dX6_centuries_206 (by decide) ?_
                                  exact ihhc72_2 (h + 1) (by omega) (by omega) (((cH rw (cY rw Hn (seed, 0, ns) y) h).2.1) + 0) (by rw [cH]; unfold cSt cDr; simp only [if_neg c_93]; first | rw [if_pos c_108] | rw [if_neg c_108]) (nI (h + 1)) rfl (upd (upd ((cH rw (cY rw Hn (seed, 0, ns) y) h).2.2) ((4 * h) + 3) ((((cH rw (cY rw Hn (seed, 0, ns) y) h).2.2) ((4 * h) + 3)) * 1)) ((4 * h) + 3) (((upd ((cH rw (cY rw Hn (seed, 0, ns) y) h).2.2) ((4 * h) + 3) ((((cH rw (cY rw Hn (seed, 0, ns) y) h).2.2) ((4 * h) + 3)) * 1)) ((4 * h) + 3)) + 1)) (by rw [cH]; unfold cSt cDr; simp only [if_neg c_93]; first | rw [if_pos c_108] | rw [if_neg c_108, tk, if_neg c_193]) (drM ((cH rw (cY rw Hn (seed, 0, ns) y) h).1)) (by rw [cH]; unfold cSt cDr; simp only [if_neg c_93]; first | rw [if_pos c_108] | rw [if_neg c_108]) _ _ (hP.sub [3, 0, 1, 2] rfl) (hD.sub [3, 0, 1, 2] (by decide) rfl) hS ls (lv_sub hl [0, 3, 1, 4, 5, 6, 7] rfl)
                exact hc72_2 (Hn + 1) 0 (by omega) (by omega) ((cY rw Hn (seed, 0, ns) y).2.1) rfl 0 rfl ((cY rw Hn (seed, 0, ns) y).2.2) rfl ((cY rw Hn (seed, 0, ns) y).1) rfl _ _ (hP.sub [0, 1, 2, 3] rfl) (hD.sub [0, 1, 2, 3] (by decide) rfl) hS ls (lv_sub hl [0, 1, 2, 3, 4, 5, 6] rfl)
          exact hc63_1 (my + 1) 0 (by omega) (by omega) 0 rfl 0 rfl ns rfl seed rfl _ _ (hP.sub [0, 1, 2, 3] rfl) (hD.sub [0, 1, 2, 3] (by decide) rfl) hS ls (lv_sub hl [0, 1, 2, 3, 4, 5] rfl)
        · have c_35 := zb_1 c_35
          refine lv_bipush (v := (-103)) hx hb dX6_centuries_38 (by decide) ?_
          have e9 : (fCenM rw ns sv Hn sd many seed what) = ((-103), sd, sv) := (by unfold fCenM; grind)
          have hP9 := hP.sub (ws' := [(mo, .inr (6, [.ref apg, .int (nI P), .int ea, .int (nI K), .int (nI Hn), .int ym, .int tm, .ref arw, .ref ans, .ref aro, .ref abo, .int (nI Sm), .ref asi, .int ((fCenM rw ns sv Hn sd many seed what).2.1), .ref asv, .int kt, .int ky, .int (nI ks), .ref akr, .ref akn, .ref aks, .long ha])), (arw, .inl (cI, 15, .inl rw)), (ans, .inl (cI, 20, .inl ns)), (asv, .inl (cI, 20, .inl ((fCenM rw ns sv Hn sd many seed what).2.2)))]) [0, 1, 2, 3] (by rw [e9]; try rfl)
          have hD9 := hD.sub (ws' := [(mo, .inr (6, [.ref apg, .int (nI P), .int ea, .int (nI K), .int (nI Hn), .int ym, .int tm, .ref arw, .ref ans, .ref aro, .ref abo, .int (nI Sm), .ref asi, .int ((fCenM rw ns sv Hn sd many seed what).2.1), .ref asv, .int kt, .int ky, .int (nI ks), .ref akr, .ref akn, .ref aks, .long ha])), (arw, .inl (cI, 15, .inl rw)), (ans, .inl (cI, 20, .inl ns)), (asv, .inl (cI, 20, .inl ((fCenM rw ns sv Hn sd many seed what).2.2)))]) [0, 1, 2, 3] (by decide) (by rw [e9]; try rfl)
          exact W.iret (v := (-103)) hx hb hr (fun t ht hW => ⟨⟨(-103), (), rfl, (by rw [e9]; try rfl), by rw [ht]; exact hP9, hD9⟩, hS.F ht⟩) hS.2.2 dX6_centuries_40
      · have c_25 := zb_0 c_25
        rw [zin (lo := 0) (hi := 2) (by decide) (by decide)] at c_25
        refine lv_bipush (v := (-102)) hx hb dX6_centuries_28 (by decide) ?_
        have e9 : (fCenM rw ns sv Hn sd many seed what) = ((-102), sd, sv) := (by unfold fCenM; grind)
        have hP9 := hP.sub (ws' := [(mo, .inr (6, [.ref apg, .int (nI P), .int ea, .int (nI K), .int (nI Hn), .int ym, .int tm, .ref arw, .ref ans, .ref aro, .ref abo, .int (nI Sm), .ref asi, .int ((fCenM rw ns sv Hn sd many seed what).2.1), .ref asv, .int kt, .int ky, .int (nI ks), .ref akr, .ref akn, .ref aks, .long ha])), (arw, .inl (cI, 15, .inl rw)), (ans, .inl (cI, 20, .inl ns)), (asv, .inl (cI, 20, .inl ((fCenM rw ns sv Hn sd many seed what).2.2)))]) [0, 1, 2, 3] (by rw [e9]; try rfl)
        have hD9 := hD.sub (ws' := [(mo, .inr (6, [.ref apg, .int (nI P), .int ea, .int (nI K), .int (nI Hn), .int ym, .int tm, .ref arw, .ref ans, .ref aro, .ref abo, .int (nI Sm), .ref asi, .int ((fCenM rw ns sv Hn sd many seed what).2.1), .ref asv, .int kt, .int ky, .int (nI ks), .ref akr, .ref akn, .ref aks, .long ha])), (arw, .inl (cI, 15, .inl rw)), (ans, .inl (cI, 20, .inl ns)), (asv, .inl (cI, 20, .inl ((fCenM rw ns sv Hn sd many seed what).2.2)))]) [0, 1, 2, 3] (by decide) (by rw [e9]; try rfl)
        exact W.iret (v := (-102)) hx hb hr (fun t ht hW => ⟨⟨(-102), (), rfl, (by rw [e9]; try rfl), by rw [ht]; exact hP9, hD9⟩, hS.F ht⟩) hS.2.2 dX6_centuries_30
