
/-! PURE WORDS of the reference's methods -/
def fLet (P : Nat) (pg : Nat → Int32) (c : Int32) : Int32 × Nat × (Nat → Int32) := if 1 ≤ c ∧ c ≤ 126 then (if P = 22 then (-104, P, pg) else (nI (P + 1), P + 1, upd pg P c)) else (-102, P, pg)
def scM (pg : Nat → Int32) (P : Nat) : Nat × Int32 := scF (gR pg) (gE pg) P 0 (-1)
def tellK (rw ns si : Nat → Int32) (Hn Sm k : Nat) (what : Int32) : Int32 :=
  if what = 0 then rw (3 * k) else if what = 1 then rw (3 * k + 1) else if what = 2 then sOfN ns (nI k) Hn else if what = 3 then eInN ns (sOfN ns (nI k) Hn) Hn else if what = 4 then rw (3 * k + 2) else if what = 5 then faiN (fun v => wayN rw si k (nI v) Sm) 10 else if what = 6 then likN (fun v => wayN rw si k (nI v) Sm) 10 else -102
def fKeeperM (rw ns si : Nat → Int32) (K Hn Sm : Nat) (k what : Int32) : Int32 := if ¬ k < 0 ∧ k < nI K then tellK rw ns si Hn Sm k.toNatClampNeg what else -101
def fAsM (rw : Nat → Int32) (K : Nat) (k kind : Int32) : Int32 :=
  if ¬ k < 0 ∧ k < nI K then (if 0 ≤ kind ∧ kind ≤ 4 then (if kind = 0 ∨ kind = rw (3 * k.toNatClampNeg) ∨ (kind = 1 ∧ rw (3 * k.toNatClampNeg) = 4) then k else -1) else -102) else -101
def fKeepsM (rw : Nat → Int32) (K : Nat) (k hard : Int32) : Int32 := if ¬ k < 0 ∧ k < nI K then (if 0 ≤ hard ∧ hard ≤ 9 then tb (rw (3 * k.toNatClampNeg)) (rw (3 * k.toNatClampNeg + 1)) hard else -102) else -101
def fHoleM (rw ns : Nat → Int32) (Hn : Nat) (h what : Int32) : Int32 := if ¬ h < 0 ∧ h < nI Hn then tellH rw ns h.toNatClampNeg what else -101
def fLetM (ns : Nat → Int32) (K Hn : Nat) (h k : Int32) : Int32 × (Nat → Int32) :=
  if (¬ h < 0 ∧ h < nI Hn) ∧ (¬ k < 0 ∧ k < nI K) then (if ns (4 * h.toNatClampNeg + 2) = 0 ∧ ¬ oneN (sOfN ns k Hn) 5 = 2 then (oneN (sOfN (upd (upd ns (4 * h.toNatClampNeg + 1) k) (4 * h.toNatClampNeg + 2) 1) k Hn) 5, upd (upd ns (4 * h.toNatClampNeg + 1) k) (4 * h.toNatClampNeg + 2) 1) else (-103, ns)) else (-101, ns)
def empM (ns : Nat → Int32) (h : Nat) : Nat → Int32 := upd (upd (upd ns (4 * h + 1) (-1)) (4 * h + 2) 0) (4 * h + 3) 0
def fLeaveM (ns : Nat → Int32) (Hn : Nat) (h : Int32) : Int32 × (Nat → Int32) :=
  if ¬ h < 0 ∧ h < nI Hn then (if ns (4 * h.toNatClampNeg + 1) = -1 then (-103, ns) else (ns (4 * h.toNatClampNeg + 3), empM ns h.toNatClampNeg)) else (-101, ns)
def kepM (rw ns : Nat → Int32) (h k : Nat) : Nat → Int32 := upd ns (4 * h + 3) (ns (4 * h + 3) + (if rw (3 * k) = 2 then 0 else 1))
def ySt (kept : Int32) (h : Nat) (q : Int32 × (Nat → Int32) × (Nat → Int32)) : Int32 × (Nat → Int32) × (Nat → Int32) :=
  if q.2.1 (4 * h + 1) = -1 then q
  else if (kept >>> (nI h &&& 31)) &&& 1 = 1 then (q.1 + 1, kepM q.2.2 q.2.1 h (q.2.1 (4 * h + 1)).toNatClampNeg, q.2.2)
  else (q.1, upd (empM q.2.1 h) (4 * h + 2) 2, upd q.2.2 (3 * (q.2.1 (4 * h + 1)).toNatClampNeg + 2) (q.2.2 (3 * (q.2.1 (4 * h + 1)).toNatClampNeg + 2) + 1))
def yN (kept : Int32) (ns rw : Nat → Int32) : Nat → Int32 × (Nat → Int32) × (Nat → Int32)
  | 0 => (0, ns, rw)
  | h + 1 => ySt kept h (yN kept ns rw h)
def fYearM (ns rw : Nat → Int32) (Hn : Nat) (ym kept : Int32) : Int32 × Int32 × (Nat → Int32) × (Nat → Int32) :=
  if 0 ≤ kept ∧ kept ≤ (1 <<< (nI Hn &&& 31)) - 1 then (if Hn = 0 then (-103, ym, ns, rw) else if ym = 99 then (-104, ym, ns, rw) else ((yN kept ns rw Hn).1, ym + 1, (yN kept ns rw Hn).2.1, (yN kept ns rw Hn).2.2)) else (-102, ym, ns, rw)
def fgSt (h : Nat) (q : Int32 × (Nat → Int32)) : Int32 × (Nat → Int32) := if q.2 (4 * h + 2) = 2 then (q.1 + 1, empM q.2 h) else q
def fgN (ns : Nat → Int32) : Nat → Int32 × (Nat → Int32)
  | 0 => (0, ns)
  | h + 1 => fgSt h (fgN ns h)
def fSeeM (si : Nat → Int32) (K Sm : Nat) (k hard kept : Int32) : Int32 × Nat × (Nat → Int32) :=
  if ¬ k < 0 ∧ k < nI K then (if 0 ≤ hard ∧ hard ≤ 9 then (if Sm = 8 then (-104, Sm, si) else (nI (Sm + 1), Sm + 1, upd (upd (upd si (3 * Sm) k) (3 * Sm + 1) hard) (3 * Sm + 2) (if kept = 0 then 0 else 1))) else (-102, Sm, si)) else (-101, Sm, si)
def drM (sd : Int32) : Int32 := (1103515245 * sd.toInt64 + 12345 &&& 2147483647).toInt32
def oUp (rw ns : Nat → Int32) (many : Nat) : Nat → Nat
  | 0 => 1
  | h + 1 => if ns (4 * h + 1) = -1 then oUp rw ns many h else oUp rw ns many h * (tIn rw ns h).toNatClampNeg ^ many
def oLo (ns : Nat → Int32) (many : Nat) : Nat → Nat
  | 0 => 1
  | h + 1 => if ns (4 * h + 1) = -1 then oLo ns many h else oLo ns many h * 10 ^ many
def cntM (rw ns : Nat → Int32) (P K Hn Sm : Nat) (ym tm what : Int32) : Int32 :=
  if what = 0 then nI K else if what = 1 then nI Hn else if what = 2 then brdN ns 1 Hn else if what = 3 then brdN ns 2 Hn else if what = 4 then eInN ns 31 Hn else if what = 5 then brkN rw K else if what = 6 then ym else if what = 7 then nI Sm else if what = 8 then nI P else if what = 9 then tm else -102
def fImgM (Hn : Nat) (kt ky : Int32) (ks : Nat) (kr kn kss : Nat → Int32) (ym tm : Int32) (Sm : Nat) (rw ns si : Nat → Int32) : Int32 × Int32 × Int32 × Nat × (Nat → Int32) × (Nat → Int32) × (Nat → Int32) := if Hn = 0 then (-103, kt, ky, ks, kr, kn, kss) else (ym, tm, ym, Sm, rw, ns, si)
def fResM (kt ky : Int32) (ks : Nat) (kr kn kss : Nat → Int32) (ym tm : Int32) (Sm : Nat) (rw ns si : Nat → Int32) : Int32 × Int32 × Nat × (Nat → Int32) × (Nat → Int32) × (Nat → Int32) := if kt = tm then (ky, ky, ks, kr, kn, kss) else (-103, ym, Sm, rw, ns, si)
theorem upd_ne {f : Nat → Int32} {k j : Nat} {x : Int32} (h : j ≠ k) : upd f k x j = f j := pk_un h
theorem letOk_emp {ns : Nat → Int32} {K Hn h : Nat} (ok : letOk ns K Hn) : letOk (empM ns h) K Hn := by
  intro a ha
  by_cases e : a = h
  · subst e
    left
    unfold empM
    rw [upd_ne (by omega), upd_ne (by omega), pk_us]
  · unfold empM
    rw [upd_ne (by omega), upd_ne (by omega), upd_ne (by omega)]
    exact ok a ha
theorem letOk_up {ns : Nat → Int32} {K Hn h j : Nat} {x : Int32} (ok : letOk ns K Hn) (hj : j = 4 * h + 2 ∨ j = 4 * h + 3) : letOk (upd ns j x) K Hn := by
  intro a ha
  rw [upd_ne (by omega)]
  exact ok a ha
theorem letOk_ySt {kept : Int32} {h K Hn : Nat} {q : Int32 × (Nat → Int32) × (Nat → Int32)} (ok : letOk q.2.1 K Hn) : letOk (ySt kept h q).2.1 K Hn := by
  unfold ySt
  split
  · exact ok
  · split
    · exact letOk_up ok (Or.inr rfl)
    · exact letOk_up (letOk_emp ok) (Or.inl rfl)
theorem letOk_yN {kept : Int32} {ns rw : Nat → Int32} {K Hn : Nat} (ok : letOk ns K Hn) : ∀ i, letOk (yN kept ns rw i).2.1 K Hn
  | 0 => ok
  | i + 1 => letOk_ySt (letOk_yN ok i)
set_option maxHeartbeats 4000000 in
set_option maxRecDepth 100000 in
theorem c_X6_letter (l : Launch) (D : va_G) (cI cZ cA : ClassId) (sz : Nat) (mo : Nat) (apg : Nat) (P : Nat) (ea : Int32) (K : Nat) (Hn : Nat) (ym : Int32) (tm : Int32) (arw : Nat) (ans : Nat) (aro : Nat) (abo : Nat) (Sm : Nat) (asi : Nat) (sd : Int32) (asv : Nat) (kt : Int32) (ky : Int32) (ks : Nat) (akr : Nat) (akn : Nat) (aks : Nat) (ha : Int64) (pgf : Nat → Int32) (c0 : Int32) (hP22 : P ≤ 22) : Met l yX6_letter wsX6_letter (zr 2) (va_Pc [.ref mo, .int c0] (zPw D cI cZ cA [(mo, .inr (6, [.ref apg, .int (nI P), .int ea, .int (nI K), .int (nI Hn), .int ym, .int tm, .ref arw, .ref ans, .ref aro, .ref abo, .int (nI Sm), .ref asi, .int sd, .ref asv, .int kt, .int ky, .int (nI ks), .ref akr, .ref akn, .ref aks, .long ha])), (apg, .inl (cI, 22, .inl pgf))] sz)) (va_Qi (fun (r : Int32) (_ : Unit) => r = (fLet P pgf c0).1) (zB D [(mo, .inr (6, [.ref apg, .int (nI ((fLet P pgf c0).2.1)), .int ea, .int (nI K), .int (nI Hn), .int ym, .int tm, .ref arw, .ref ans, .ref aro, .ref abo, .int (nI Sm), .ref asi, .int sd, .ref asv, .int kt, .int ky, .int (nI ks), .ref akr, .ref akn, .ref aks, .long ha])), (apg, .inl (cI, 22, .inl ((fLet P pgf c0).2.2)))] (va_A [(mo, .inr (6, [.ref apg, .int (nI P), .int ea, .int (nI K), .int (nI Hn), .int ym, .int tm, .ref arw, .ref ans, .ref aro, .ref abo, .int (nI Sm), .ref asi, .int sd, .ref asv, .int kt, .int ky, .int (nI ks), .ref akr, .ref akn, .ref aks, .long ha])), (apg, .inl (cI, 22, .inl pgf))] sz)) (va_A [(mo, .inr (6, [.ref apg, .int (nI P), .int ea, .int (nI K), .int (nI Hn), .int ym, .int tm, .ref arw, .ref ans, .ref aro, .ref abo, .int (nI Sm), .ref asi, .int sd, .ref asv, .int kt, .int ky, .int (nI ks), .ref akr, .ref akn, .ref aks, .long ha])), (apg, .inl (cI, 22, .inl pgf))] sz)) 0 0 (va_A [(mo, .inr (6, [.ref apg, .int (nI P), .int ea, .int (nI K), .int (nI Hn), .int ym, .int tm, .ref arw, .ref ans, .ref aro, .ref abo, .int (nI Sm), .ref asi, .int sd, .ref asv, .int kt, .int ky, .int (nI ks), .ref akr, .ref akn, .ref aks, .long ha])), (apg, .inl (cI, 22, .inl pgf))] sz) := by
  refine Met.ofW (cc := cX6_letter) (maxL := 2) (ret := (some .int)) (by decide) rfl ?_
  intro p e s m args below meth c s₁ B hml hv
  obtain ⟨rfl, hsz, hP, hD0, hE⟩ := hv
  have hx := B.exec
  have hb := B.bytes
  have hr := B.returns
  have hts := atoms_spec (ws := wsX6_letter) B.pre
  have hown : s.vm.findClass RX6 = some m.cls := findClass_of_methodNamed B.named
  have hlocks := B.notSynchronized
  subst hsz
  have hD := hD0.self (sz := s.heap.size)
  generalize hAe : va_A [(mo, .inr (6, [.ref apg, .int (nI P), .int ea, .int (nI K), .int (nI Hn), .int ym, .int tm, .ref arw, .ref ans, .ref aro, .ref abo, .int (nI Sm), .ref asi, .int sd, .ref asv, .int kt, .int ky, .int (nI ks), .ref akr, .ref akn, .ref aks, .long ha])), (apg, .inl (cI, 22, .inl pgf))] s.heap.size = A at hD ⊢
  have hA : ∀ q : Nat, s.heap.size ≤ q → A q := fun q h => by rw [← hAe]; exact Or.inr h
  have hS : va_S A s.heap s.heap [] := va_S.rf
  have hP : va_P D vwCl [(mo, .inr (6, [.ref apg, .int (nI P), .int ea, .int (nI K), .int (nI Hn), .int ym, .int tm, .ref arw, .ref ans, .ref aro, .ref abo, .int (nI Sm), .ref asi, .int sd, .ref asv, .int kt, .int ky, .int (nI ks), .ref akr, .ref akn, .ref aks, .long ha])), (apg, .inl (cI, 22, .inl pgf))] s.heap := hP
  have hD : va_D A [(mo, .inr (6, [.ref apg, .int (nI P), .int ea, .int (nI K), .int (nI Hn), .int ym, .int tm, .ref arw, .ref ans, .ref aro, .ref abo, .int (nI Sm), .ref asi, .int sd, .ref asv, .int kt, .int ky, .int (nI ks), .ref akr, .ref akn, .ref aks, .long ha])), (apg, .inl (cI, 22, .inl pgf))] := hD
  have hl := lv_entry ([.ref mo, .int c0]) (n := 2) (Nat.le_of_ble_eq_true rfl)
  rw [lg_entry_eq]
  generalize (lg_sl ([.ref mo, .int c0]) ++ List.replicate (2 - (lg_sl ([.ref mo, .int c0])).length) Slot.unset).toArray = ls at hl ⊢
  have hl : lv_has ls 2 [(0, .ref mo), (1, .int c0)] := hl
  have hinX6 : ∀ w ∈ wsX60, w ∈ wsX6_letter := fun w h => List.mem_cons_of_mem _ (List.mem_append_right _ h)
  have k_0 := hts (.constantLong RX6 44 (126)) (by decide +kernel)
  have k_1 := hts (.fieldLink RX6 50 "VowDovesModel" "pageMany" "I") (by decide +kernel)
  have k_2 := hts (.fieldLink RX6 7 "VowDovesModel" "page" "[I") (by decide +kernel)
  refine lv_iload_n hx hb dX6_letter_0 rfl (lv_at hl 1 rfl) ?_
  refine lv_i2l (v := (c0 : Int32).toInt64) hx hb dX6_letter_1 rfl ?_
  refine lv_lconst (v := 1) hx hb dX6_letter_2 (by decide) ?_
  refine lv_ldc2 (v := 126) hx hb hown k_0 dX6_letter_3 ?_
  refine z_roSi (As := [.long ((c0 : Int32).toInt64), .long 1, .long 126]) (rest := []) ⟨hx, hb, hml, hown, hts⟩ (c_X6_in l D cI cZ cA ((c0 : Int32).toInt64) 1 126 ) (va_cwS 3 hts gX6_letter_X6_in rfl rfl rfl (by decide +kernel) ⟨Nat.le_of_ble_eq_true rfl, Nat.le_of_ble_eq_true rfl⟩) hE hP [] rfl rfl hl.1 rfl (Nat.le_of_ble_eq_true rfl) dX6_letter_6 ⟨Nat.zero_le _, Nat.zero_le _⟩ ?_
  refine lv_if_ne (tgt := 15) hx hb dX6_letter_9 (by decide) (fun c_9 => ?_) (fun c_9 => ?_)
  · have c_9 := zb_1 c_9
    rw [zin (lo := 1) (hi := 126) (by decide) (by decide)] at c_9
    refine lv_aload_n hx hb dX6_letter_15 rfl (lv_at hl 0 rfl) ?_
    refine va_get (D := D) (ci := 6) (v := .int (nI P)) (C := RX6) (T := TX6) (N := 22) hx hb hts hinX6 hown hE.1 hP 0 rfl rfl 1 (by decide) k_1 (fun _ h9 => h9) rfl dX6_letter_16 ?_
    refine lv_bipush (v := 22) hx hb dX6_letter_19 (by decide) ?_
    refine lv_icmp_ne (tgt := 27) hx hb dX6_letter_21 (by decide) (fun c_21 => ?_) (fun c_21 => ?_)
    · have n_21 := zn_ne (a := P) (b := 22) rfl rfl c_21 (by omega) (by omega)
      refine lv_aload_n hx hb dX6_letter_27 rfl (lv_at hl 0 rfl) ?_
      refine va_get (D := D) (ci := 6) (v := .ref apg) (C := RX6) (T := TX6) (N := 22) hx hb hts hinX6 hown hE.1 hP 0 rfl rfl 0 (by decide) k_2 (fun _ h9 => h9) rfl dX6_letter_28 ?_
      refine lv_aload_n hx hb dX6_letter_31 rfl (lv_at hl 0 rfl) ?_
      refine va_get (D := D) (ci := 6) (v := .int (nI P)) (C := RX6) (T := TX6) (N := 22) hx hb hts hinX6 hown hE.1 hP 0 rfl rfl 1 (by decide) k_1 (fun _ h9 => h9) rfl dX6_letter_32 ?_
      refine lv_iload_n hx hb dX6_letter_35 rfl (lv_at hl 1 rfl) ?_
      refine z_iast hx hb hE hP hD hS 1 rfl (j := P) rfl (by omega) (by decide) dX6_letter_36 (fun H locs hP hD hS => ?_)
      have hP : va_P D vwCl [(mo, .inr (6, [.ref apg, .int (nI P), .int ea, .int (nI K), .int (nI Hn), .int ym, .int tm, .ref arw, .ref ans, .ref aro, .ref abo, .int (nI Sm), .ref asi, .int sd, .ref asv, .int kt, .int ky, .int (nI ks), .ref akr, .ref akn, .ref aks, .long ha])), (apg, .inl (cI, 22, .inl (upd pgf P c0)))] H := hP
      have hD : va_D A [(mo, .inr (6, [.ref apg, .int (nI P), .int ea, .int (nI K), .int (nI Hn), .int ym, .int tm, .ref arw, .ref ans, .ref aro, .ref abo, .int (nI Sm), .ref asi, .int sd, .ref asv, .int kt, .int ky, .int (nI ks), .ref akr, .ref akn, .ref aks, .long ha])), (apg, .inl (cI, 22, .inl (upd pgf P c0)))] := hD
      refine lv_aload_n hx hb dX6_letter_37 rfl (lv_at hl 0 rfl) ?_
      refine lv_dup hx hb dX6_letter_38 rfl ?_
      refine va_get (D := D) (ci := 6) (v := .int (nI P)) (C := RX6) (T := TX6) (N := 22) hx hb hts hinX6 hown hE.1 hP 0 rfl rfl 1 (by decide) k_1 (fun _ h9 => h9) rfl dX6_letter_39 ?_
      refine lv_iconst (v := 1) hx hb dX6_letter_42 (by decide) ?_
      refine z_iaddN hx hb (a := P) (b := 1) rfl rfl dX6_letter_43 ?_
      refine va_put (D := D) (ci := 6) (v := .int (nI (P + 1))) (ty := .int) (C := RX6) (T := TX6) (N := 22) hx hb hts hinX6 tyX6 tyX6_ok nmX6 hown hE.1 hP hD hS 0 rfl rfl 1 (by decide) k_1 (fun _ h9 => h9) rfl (by decide +kernel) rfl rfl (Nat.le_of_ble_eq_true rfl) dX6_letter_44 (fun H locs hP hD hS => ?_)
      have hP : va_P D vwCl [(mo, .inr (6, [.ref apg, .int (nI (P + 1)), .int ea, .int (nI K), .int (nI Hn), .int ym, .int tm, .ref arw, .ref ans, .ref aro, .ref abo, .int (nI Sm), .ref asi, .int sd, .ref asv, .int kt, .int ky, .int (nI ks), .ref akr, .ref akn, .ref aks, .long ha])), (apg, .inl (cI, 22, .inl (upd pgf P c0)))] H := hP
      have hD : va_D A [(mo, .inr (6, [.ref apg, .int (nI (P + 1)), .int ea, .int (nI K), .int (nI Hn), .int ym, .int tm, .ref arw, .ref ans, .ref aro, .ref abo, .int (nI Sm), .ref asi, .int sd, .ref asv, .int kt, .int ky, .int (nI ks), .ref akr, .ref akn, .ref aks, .long ha])), (apg, .inl (cI, 22, .inl (upd pgf P c0)))] := hD
      refine lv_aload_n hx hb dX6_letter_47 rfl (lv_at hl 0 rfl) ?_
      refine va_get (D := D) (ci := 6) (v := .int (nI (P + 1))) (C := RX6) (T := TX6) (N := 22) hx hb hts hinX6 hown hE.1 hP 0 rfl rfl 1 (by decide) k_1 (fun _ h9 => h9) rfl dX6_letter_48 ?_
      have e9 : (fLet P pgf c0) = (nI (P + 1), P + 1, upd pgf P c0) := (by unfold fLet; grind)
      have hP9 := hP.sub (ws' := [(mo, .inr (6, [.ref apg, .int (nI ((fLet P pgf c0).2.1)), .int ea, .int (nI K), .int (nI Hn), .int ym, .int tm, .ref arw, .ref ans, .ref aro, .ref abo, .int (nI Sm), .ref asi, .int sd, .ref asv, .int kt, .int ky, .int (nI ks), .ref akr, .ref akn, .ref aks, .long ha])), (apg, .inl (cI, 22, .inl ((fLet P pgf c0).2.2)))]) [0, 1] (by rw [e9]; try rfl)
      have hD9 := hD.sub (ws' := [(mo, .inr (6, [.ref apg, .int (nI ((fLet P pgf c0).2.1)), .int ea, .int (nI K), .int (nI Hn), .int ym, .int tm, .ref arw, .ref ans, .ref aro, .ref abo, .int (nI Sm), .ref asi, .int sd, .ref asv, .int kt, .int ky, .int (nI ks), .ref akr, .ref akn, .ref aks, .long ha])), (apg, .inl (cI, 22, .inl ((fLet P pgf c0).2.2)))]) [0, 1] (by decide) (by rw [e9]; try rfl)
      exact W.iret (v := nI (P + 1)) hx hb hr (fun t ht hW => ⟨⟨(nI (P + 1)), (), rfl, (by rw [e9]; try rfl), by rw [ht]; exact hP9, hD9⟩, hS.F ht⟩) hS.2.2 dX6_letter_51
    · have n_21 := zn_eq (a := P) (b := 22) rfl rfl c_21 (by omega) (by omega)
      refine lv_bipush (v := (-104)) hx hb dX6_letter_24 (by decide) ?_
      have e9 : (fLet P pgf c0) = ((-104), P, pgf) := (by unfold fLet; grind)
      have hP9 := hP.sub (ws' := [(mo, .inr (6, [.ref apg, .int (nI ((fLet P pgf c0).2.1)), .int ea, .int (nI K), .int (nI Hn), .int ym, .int tm, .ref arw, .ref ans, .ref aro, .ref abo, .int (nI Sm), .ref asi, .int sd, .ref asv, .int kt, .int ky, .int (nI ks), .ref akr, .ref akn, .ref aks, .long ha])), (apg, .inl (cI, 22, .inl ((fLet P pgf c0).2.2)))]) [0, 1] (by rw [e9]; try rfl)
      have hD9 := hD.sub (ws' := [(mo, .inr (6, [.ref apg, .int (nI ((fLet P pgf c0).2.1)), .int ea, .int (nI K), .int (nI Hn), .int ym, .int tm, .ref arw, .ref ans, .ref aro, .ref abo, .int (nI Sm), .ref asi, .int sd, .ref asv, .int kt, .int ky, .int (nI ks), .ref akr, .ref akn, .ref aks, .long ha])), (apg, .inl (cI, 22, .inl ((fLet P pgf c0).2.2)))]) [0, 1] (by decide) (by rw [e9]; try rfl)
      exact W.iret (v := (-104)) hx hb hr (fun t ht hW => ⟨⟨(-104), (), rfl, (by rw [e9]; try rfl), by rw [ht]; exact hP9, hD9⟩, hS.F ht⟩) hS.2.2 dX6_letter_26
  · have c_9 := zb_0 c_9
    rw [zin (lo := 1) (hi := 126) (by decide) (by decide)] at c_9
    refine lv_bipush (v := (-102)) hx hb dX6_letter_12 (by decide) ?_
    have e9 : (fLet P pgf c0) = ((-102), P, pgf) := (by unfold fLet; grind)
    have hP9 := hP.sub (ws' := [(mo, .inr (6, [.ref apg, .int (nI ((fLet P pgf c0).2.1)), .int ea, .int (nI K), .int (nI Hn), .int ym, .int tm, .ref arw, .ref ans, .ref aro, .ref abo, .int (nI Sm), .ref asi, .int sd, .ref asv, .int kt, .int ky, .int (nI ks), .ref akr, .ref akn, .ref aks, .long ha])), (apg, .inl (cI, 22, .inl ((fLet P pgf c0).2.2)))]) [0, 1] (by rw [e9]; try rfl)
    have hD9 := hD.sub (ws' := [(mo, .inr (6, [.ref apg, .int (nI ((fLet P pgf c0).2.1)), .int ea, .int (nI K), .int (nI Hn), .int ym, .int tm, .ref arw, .ref ans, .ref aro, .ref abo, .int (nI Sm), .ref asi, .int sd, .ref asv, .int kt, .int ky, .int (nI ks), .ref akr, .ref akn, .ref aks, .long ha])), (apg, .inl (cI, 22, .inl ((fLet P pgf c0).2.2)))]) [0, 1] (by decide) (by rw [e9]; try rfl)
    exact W.iret (v := (-102)) hx hb hr (fun t ht hW => ⟨⟨(-102), (), rfl, (by rw [e9]; try rfl), by rw [ht]; exact hP9, hD9⟩, hS.F ht⟩) hS.2.2 dX6_letter_14

set_option maxHeartbeats 4000000 in
set_option maxRecDepth 100000 in
theorem c_X6_blank (l : Launch) (D : va_G) (cI cZ cA : ClassId) (sz : Nat) (mo : Nat) (apg : Nat) (P : Nat) (ea : Int32) (K : Nat) (Hn : Nat) (ym : Int32) (tm : Int32) (arw : Nat) (ans : Nat) (aro : Nat) (abo : Nat) (Sm : Nat) (asi : Nat) (sd : Int32) (asv : Nat) (kt : Int32) (ky : Int32) (ks : Nat) (akr : Nat) (akn : Nat) (aks : Nat) (ha : Int64)  : Met l yX6_blank wsX6_blank (zr 1) (va_Pc [.ref mo] (zPw D cI cZ cA [(mo, .inr (6, [.ref apg, .int (nI P), .int ea, .int (nI K), .int (nI Hn), .int ym, .int tm, .ref arw, .ref ans, .ref aro, .ref abo, .int (nI Sm), .ref asi, .int sd, .ref asv, .int kt, .int ky, .int (nI ks), .ref akr, .ref akn, .ref aks, .long ha]))] sz)) (va_Qi (fun (r : Int32) (_ : Unit) => r = nI P) (zB D [(mo, .inr (6, [.ref apg, .int (nI 0), .int ea, .int (nI K), .int (nI Hn), .int ym, .int tm, .ref arw, .ref ans, .ref aro, .ref abo, .int (nI Sm), .ref asi, .int sd, .ref asv, .int kt, .int ky, .int (nI ks), .ref akr, .ref akn, .ref aks, .long ha]))] (va_A [(mo, .inr (6, [.ref apg, .int (nI P), .int ea, .int (nI K), .int (nI Hn), .int ym, .int tm, .ref arw, .ref ans, .ref aro, .ref abo, .int (nI Sm), .ref asi, .int sd, .ref asv, .int kt, .int ky, .int (nI ks), .ref akr, .ref akn, .ref aks, .long ha]))] sz)) (va_A [(mo, .inr (6, [.ref apg, .int (nI P), .int ea, .int (nI K), .int (nI Hn), .int ym, .int tm, .ref arw, .ref ans, .ref aro, .ref abo, .int (nI Sm), .ref asi, .int sd, .ref asv, .int kt, .int ky, .int (nI ks), .ref akr, .ref akn, .ref aks, .long ha]))] sz)) 0 0 (va_A [(mo, .inr (6, [.ref apg, .int (nI P), .int ea, .int (nI K), .int (nI Hn), .int ym, .int tm, .ref arw, .ref ans, .ref aro, .ref abo, .int (nI Sm), .ref asi, .int sd, .ref asv, .int kt, .int ky, .int (nI ks), .ref akr, .ref akn, .ref aks, .long ha]))] sz) := by
  refine Met.ofW (cc := cX6_blank) (maxL := 2) (ret := (some .int)) (by decide) rfl ?_
  intro p e s m args below meth c s₁ B hml hv
  obtain ⟨rfl, hsz, hP, hD0, hE⟩ := hv
  have hx := B.exec
  have hb := B.bytes
  have hr := B.returns
  have hts := atoms_spec (ws := wsX6_blank) B.pre
  have hown : s.vm.findClass RX6 = some m.cls := findClass_of_methodNamed B.named
  have hlocks := B.notSynchronized
  subst hsz
  have hD := hD0.self (sz := s.heap.size)
  generalize hAe : va_A [(mo, .inr (6, [.ref apg, .int (nI P), .int ea, .int (nI K), .int (nI Hn), .int ym, .int tm, .ref arw, .ref ans, .ref aro, .ref abo, .int (nI Sm), .ref asi, .int sd, .ref asv, .int kt, .int ky, .int (nI ks), .ref akr, .ref akn, .ref aks, .long ha]))] s.heap.size = A at hD ⊢
  have hA : ∀ q : Nat, s.heap.size ≤ q → A q := fun q h => by rw [← hAe]; exact Or.inr h
  have hS : va_S A s.heap s.heap [] := va_S.rf
  have hP : va_P D vwCl [(mo, .inr (6, [.ref apg, .int (nI P), .int ea, .int (nI K), .int (nI Hn), .int ym, .int tm, .ref arw, .ref ans, .ref aro, .ref abo, .int (nI Sm), .ref asi, .int sd, .ref asv, .int kt, .int ky, .int (nI ks), .ref akr, .ref akn, .ref aks, .long ha]))] s.heap := hP
  have hD : va_D A [(mo, .inr (6, [.ref apg, .int (nI P), .int ea, .int (nI K), .int (nI Hn), .int ym, .int tm, .ref arw, .ref ans, .ref aro, .ref abo, .int (nI Sm), .ref asi, .int sd, .ref asv, .int kt, .int ky, .int (nI ks), .ref akr, .ref akn, .ref aks, .long ha]))] := hD
  have hl := lv_entry ([.ref mo]) (n := 2) (Nat.le_of_ble_eq_true rfl)
  rw [lg_entry_eq]
  generalize (lg_sl ([.ref mo]) ++ List.replicate (2 - (lg_sl ([.ref mo])).length) Slot.unset).toArray = ls at hl ⊢
  have hl : lv_has ls 2 [(0, .ref mo)] := hl
  have hinX6 : ∀ w ∈ wsX60, w ∈ wsX6_blank := fun w h => List.mem_cons_of_mem _ (List.mem_append_right _ h)
  have k_0 := hts (.fieldLink RX6 50 "VowDovesModel" "pageMany" "I") (by decide +kernel)
  refine lv_aload_n hx hb dX6_blank_0 rfl (lv_at hl 0 rfl) ?_
  refine va_get (D := D) (ci := 6) (v := .int (nI P)) (C := RX6) (T := TX6) (N := 22) hx hb hts hinX6 hown hE.1 hP 0 rfl rfl 1 (by decide) k_0 (fun _ h9 => h9) rfl dX6_blank_1 ?_
  refine lv_istore_n (lv' := [(1, .int (nI P)), (0, .ref mo)]) hx hb dX6_blank_4 rfl hl (by decide) rfl (fun ls hl => ?_)
  refine lv_aload_n hx hb dX6_blank_5 rfl (lv_at hl 1 rfl) ?_
  refine lv_iconst (v := 0) hx hb dX6_blank_6 (by decide) ?_
  refine va_put (D := D) (ci := 6) (v := .int 0) (ty := .int) (C := RX6) (T := TX6) (N := 22) hx hb hts hinX6 tyX6 tyX6_ok nmX6 hown hE.1 hP hD hS 0 rfl rfl 1 (by decide) k_0 (fun _ h9 => h9) rfl (by decide +kernel) rfl rfl (Nat.le_of_ble_eq_true rfl) dX6_blank_7 (fun H locs hP hD hS => ?_)
  have hP : va_P D vwCl [(mo, .inr (6, [.ref apg, .int 0, .int ea, .int (nI K), .int (nI Hn), .int ym, .int tm, .ref arw, .ref ans, .ref aro, .ref abo, .int (nI Sm), .ref asi, .int sd, .ref asv, .int kt, .int ky, .int (nI ks), .ref akr, .ref akn, .ref aks, .long ha]))] H := hP
  have hD : va_D A [(mo, .inr (6, [.ref apg, .int 0, .int ea, .int (nI K), .int (nI Hn), .int ym, .int tm, .ref arw, .ref ans, .ref aro, .ref abo, .int (nI Sm), .ref asi, .int sd, .ref asv, .int kt, .int ky, .int (nI ks), .ref akr, .ref akn, .ref aks, .long ha]))] := hD
  refine lv_iload_n hx hb dX6_blank_10 rfl (lv_at hl 0 rfl) ?_
  have hP9 := hP.sub (ws' := [(mo, .inr (6, [.ref apg, .int (nI 0), .int ea, .int (nI K), .int (nI Hn), .int ym, .int tm, .ref arw, .ref ans, .ref aro, .ref abo, .int (nI Sm), .ref asi, .int sd, .ref asv, .int kt, .int ky, .int (nI ks), .ref akr, .ref akn, .ref aks, .long ha]))]) [0] rfl
  have hD9 := hD.sub (ws' := [(mo, .inr (6, [.ref apg, .int (nI 0), .int ea, .int (nI K), .int (nI Hn), .int ym, .int tm, .ref arw, .ref ans, .ref aro, .ref abo, .int (nI Sm), .ref asi, .int sd, .ref asv, .int kt, .int ky, .int (nI ks), .ref akr, .ref akn, .ref aks, .long ha]))]) [0] (by decide) rfl
  exact W.iret (v := nI P) hx hb hr (fun t ht hW => ⟨⟨(nI P), (), rfl, rfl, by rw [ht]; exact hP9, hD9⟩, hS.F ht⟩) hS.2.2 dX6_blank_11

set_option maxHeartbeats 4000000 in
set_option maxRecDepth 100000 in
theorem c_X6_isGood (l : Launch) (D : va_G) (cI cZ cA : ClassId) (sz : Nat) (mo : Nat) (apg : Nat) (P : Nat) (ea : Int32) (K : Nat) (Hn : Nat) (ym : Int32) (tm : Int32) (arw : Nat) (ans : Nat) (aro : Nat) (abo : Nat) (Sm : Nat) (asi : Nat) (sd : Int32) (asv : Nat) (kt : Int32) (ky : Int32) (ks : Nat) (akr : Nat) (akn : Nat) (aks : Nat) (ha : Int64) (pgf : Nat → Int32) (i : Nat) (hi : i < 22) : Met l yX6_isGood wsX6_isGood (zr 2) (va_Pc [.ref mo, .int (nI i)] (zPw D cI cZ cA [(mo, .inr (6, [.ref apg, .int (nI P), .int ea, .int (nI K), .int (nI Hn), .int ym, .int tm, .ref arw, .ref ans, .ref aro, .ref abo, .int (nI Sm), .ref asi, .int sd, .ref asv, .int kt, .int ky, .int (nI ks), .ref akr, .ref akn, .ref aks, .long ha])), (apg, .inl (cI, 22, .inl pgf))] sz)) (va_Qi (fun (r : Int32) (_ : Unit) => r = (gR pgf ea i, gE pgf ea i).1) (zB D [(mo, .inr (6, [.ref apg, .int (nI P), .int ((gR pgf ea i, gE pgf ea i).2), .int (nI K), .int (nI Hn), .int ym, .int tm, .ref arw, .ref ans, .ref aro, .ref abo, .int (nI Sm), .ref asi, .int sd, .ref asv, .int kt, .int ky, .int (nI ks), .ref akr, .ref akn, .ref aks, .long ha])), (apg, .inl (cI, 22, .inl pgf))] (va_A [(mo, .inr (6, [.ref apg, .int (nI P), .int ea, .int (nI K), .int (nI Hn), .int ym, .int tm, .ref arw, .ref ans, .ref aro, .ref abo, .int (nI Sm), .ref asi, .int sd, .ref asv, .int kt, .int ky, .int (nI ks), .ref akr, .ref akn, .ref aks, .long ha])), (apg, .inl (cI, 22, .inl pgf))] sz)) (va_A [(mo, .inr (6, [.ref apg, .int (nI P), .int ea, .int (nI K), .int (nI Hn), .int ym, .int tm, .ref arw, .ref ans, .ref aro, .ref abo, .int (nI Sm), .ref asi, .int sd, .ref asv, .int kt, .int ky, .int (nI ks), .ref akr, .ref akn, .ref aks, .long ha])), (apg, .inl (cI, 22, .inl pgf))] sz)) 0 0 (va_A [(mo, .inr (6, [.ref apg, .int (nI P), .int ea, .int (nI K), .int (nI Hn), .int ym, .int tm, .ref arw, .ref ans, .ref aro, .ref abo, .int (nI Sm), .ref asi, .int sd, .ref asv, .int kt, .int ky, .int (nI ks), .ref akr, .ref akn, .ref aks, .long ha])), (apg, .inl (cI, 22, .inl pgf))] sz) := by
  refine Met.ofW (cc := cX6_isGood) (maxL := 3) (ret := (some .boolean)) (by decide) rfl ?_
  intro p e s m args below meth c s₁ B hml hv
  obtain ⟨rfl, hsz, hP, hD0, hE⟩ := hv
  have hx := B.exec
  have hb := B.bytes
  have hr := B.returns
  have hts := atoms_spec (ws := wsX6_isGood) B.pre
  have hown : s.vm.findClass RX6 = some m.cls := findClass_of_methodNamed B.named
  have hlocks := B.notSynchronized
  subst hsz
  have hD := hD0.self (sz := s.heap.size)
  generalize hAe : va_A [(mo, .inr (6, [.ref apg, .int (nI P), .int ea, .int (nI K), .int (nI Hn), .int ym, .int tm, .ref arw, .ref ans, .ref aro, .ref abo, .int (nI Sm), .ref asi, .int sd, .ref asv, .int kt, .int ky, .int (nI ks), .ref akr, .ref akn, .ref aks, .long ha])), (apg, .inl (cI, 22, .inl pgf))] s.heap.size = A at hD ⊢
  have hA : ∀ q : Nat, s.heap.size ≤ q → A q := fun q h => by rw [← hAe]; exact Or.inr h
  have hS : va_S A s.heap s.heap [] := va_S.rf
  have hP : va_P D vwCl [(mo, .inr (6, [.ref apg, .int (nI P), .int ea, .int (nI K), .int (nI Hn), .int ym, .int tm, .ref arw, .ref ans, .ref aro, .ref abo, .int (nI Sm), .ref asi, .int sd, .ref asv, .int kt, .int ky, .int (nI ks), .ref akr, .ref akn, .ref aks, .long ha])), (apg, .inl (cI, 22, .inl pgf))] s.heap := hP
  have hD : va_D A [(mo, .inr (6, [.ref apg, .int (nI P), .int ea, .int (nI K), .int (nI Hn), .int ym, .int tm, .ref arw, .ref ans, .ref aro, .ref abo, .int (nI Sm), .ref asi, .int sd, .ref asv, .int kt, .int ky, .int (nI ks), .ref akr, .ref akn, .ref aks, .long ha])), (apg, .inl (cI, 22, .inl pgf))] := hD
  have hl := lv_entry ([.ref mo, .int (nI i)]) (n := 3) (Nat.le_of_ble_eq_true rfl)
  rw [lg_entry_eq]
  generalize (lg_sl ([.ref mo, .int (nI i)]) ++ List.replicate (3 - (lg_sl ([.ref mo, .int (nI i)])).length) Slot.unset).toArray = ls at hl ⊢
  have hl : lv_has ls 3 [(0, .ref mo), (1, .int (nI i))] := hl
  have hinX6 : ∀ w ∈ wsX60, w ∈ wsX6_isGood := fun w h => List.mem_cons_of_mem _ (List.mem_append_right _ h)
  have k_0 := hts (.fieldLink RX6 7 "VowDovesModel" "page" "[I") (by decide +kernel)
  have k_1 := hts (.fieldLink RX6 53 "VowDovesModel" "endAt" "I") (by decide +kernel)
  have k_2 := hts (.constantLong RX6 56 (48)) (by decide +kernel)
  have k_3 := hts (.constantLong RX6 58 (57)) (by decide +kernel)
  refine lv_aload_n hx hb dX6_isGood_0 rfl (lv_at hl 0 rfl) ?_
  refine va_get (D := D) (ci := 6) (v := .ref apg) (C := RX6) (T := TX6) (N := 22) hx hb hts hinX6 hown hE.1 hP 0 rfl rfl 0 (by decide) k_0 (fun _ h9 => h9) rfl dX6_isGood_1 ?_
  refine lv_iload_n hx hb dX6_isGood_4 rfl (lv_at hl 1 rfl) ?_
  refine z_iald hx hb hE hP 1 rfl (j := i) rfl (by omega) (by decide) dX6_isGood_5 ?_
  refine lv_istore_n (lv' := [(2, .int (pgf i)), (0, .ref mo), (1, .int (nI i))]) hx hb dX6_isGood_6 rfl hl (by decide) rfl (fun ls hl => ?_)
  refine lv_aload_n hx hb dX6_isGood_7 rfl (lv_at hl 1 rfl) ?_
  refine va_get (D := D) (ci := 6) (v := .int ea) (C := RX6) (T := TX6) (N := 22) hx hb hts hinX6 hown hE.1 hP 0 rfl rfl 2 (by decide) k_1 (fun _ h9 => h9) rfl dX6_isGood_8 ?_
  refine lv_iconst (v := (-1)) hx hb dX6_isGood_11 (by decide) ?_
  refine lv_icmp_eq (tgt := 46) hx hb dX6_isGood_12 (by decide) (fun c_12 => ?_) (fun c_12 => ?_)
  · refine lv_iload_n hx hb dX6_isGood_46 rfl (lv_at hl 2 rfl) ?_
    refine lv_iconst (v := 3) hx hb dX6_isGood_47 (by decide) ?_
    refine z_iremN hx hb (a := i) (b := 3) rfl rfl (by omega) (by omega) (by omega) dX6_isGood_48 ?_
    refine lv_iconst (v := 2) hx hb dX6_isGood_49 (by decide) ?_
    refine lv_icmp_ne (tgt := 89) hx hb dX6_isGood_50 (by decide) (fun c_50 => ?_) (fun c_50 => ?_)
    · have n_50 := zn_ne (a := i % 3) (b := 2) rfl rfl c_50 (by omega) (by omega)
      refine lv_iload_n hx hb dX6_isGood_89 rfl (lv_at hl 2 rfl) ?_
      refine lv_iconst (v := 3) hx hb dX6_isGood_90 (by decide) ?_
      refine z_iremN hx hb (a := i) (b := 3) rfl rfl (by omega) (by omega) (by omega) dX6_isGood_91 ?_
      refine lv_if_ne (tgt := 111) hx hb dX6_isGood_92 (by decide) (fun c_92 => ?_) (fun c_92 => ?_)
      · have n_92 := zn_ne (a := i % 3) (b := 0) rfl rfl c_92 (by omega) (by omega)
        refine lv_iload_n hx hb dX6_isGood_111 rfl (lv_at hl 0 rfl) ?_
        refine lv_i2l (v := (pgf i : Int32).toInt64) hx hb dX6_isGood_112 rfl ?_
        refine lv_ldc2 (v := 48) hx hb hown k_2 dX6_isGood_113 ?_
        refine lv_ldc2 (v := 57) hx hb hown k_3 dX6_isGood_116 ?_
        refine z_roSi (As := [.long ((pgf i : Int32).toInt64), .long 48, .long 57]) (rest := []) ⟨hx, hb, hml, hown, hts⟩ (c_X6_in l D cI cZ cA ((pgf i : Int32).toInt64) 48 57 ) (va_cwS 3 hts gX6_isGood_X6_in rfl rfl rfl (by decide +kernel) ⟨Nat.le_of_ble_eq_true rfl, Nat.le_of_ble_eq_true rfl⟩) hE hP [] rfl rfl hl.1 rfl (Nat.le_of_ble_eq_true rfl) dX6_isGood_119 ⟨Nat.zero_le _, Nat.zero_le _⟩ ?_
        rw [zb_c (zin (x := pgf i) (lo := 48) (hi := 57) (by decide) (by decide))]
        have e9 : (gR pgf ea i, gE pgf ea i) = ((zb (48 ≤ pgf i ∧ pgf i ≤ 57)), ea) := (by unfold gR gE zb; grind)
        have hP9 := hP.sub (ws' := [(mo, .inr (6, [.ref apg, .int (nI P), .int ((gR pgf ea i, gE pgf ea i).2), .int (nI K), .int (nI Hn), .int ym, .int tm, .ref arw, .ref ans, .ref aro, .ref abo, .int (nI Sm), .ref asi, .int sd, .ref asv, .int kt, .int ky, .int (nI ks), .ref akr, .ref akn, .ref aks, .long ha])), (apg, .inl (cI, 22, .inl pgf))]) [0, 1] (by rw [e9]; try rfl)
        have hD9 := hD.sub (ws' := [(mo, .inr (6, [.ref apg, .int (nI P), .int ((gR pgf ea i, gE pgf ea i).2), .int (nI K), .int (nI Hn), .int ym, .int tm, .ref arw, .ref ans, .ref aro, .ref abo, .int (nI Sm), .ref asi, .int sd, .ref asv, .int kt, .int ky, .int (nI ks), .ref akr, .ref akn, .ref aks, .long ha])), (apg, .inl (cI, 22, .inl pgf))]) [0, 1] (by decide) (by rw [e9]; try rfl)
        exact W.zret (v := (zb (48 ≤ pgf i ∧ pgf i ≤ 57))) hx hb hr zb_nar (fun t ht hW => ⟨⟨(zb (48 ≤ pgf i ∧ pgf i ≤ 57)), (), rfl, (by rw [e9]; try rfl), by rw [ht]; exact hP9, hD9⟩, hS.F ht⟩) hS.2.2 dX6_isGood_122
      · have n_92 := zn_eq (a := i % 3) (b := 0) rfl rfl c_92 (by omega) (by omega)
        refine lv_iload_n hx hb dX6_isGood_95 rfl (lv_at hl 0 rfl) ?_
        refine z_roSi (As := [.int (pgf i)]) (rest := []) ⟨hx, hb, hml, hown, hts⟩ (c_X6_kindBy l D cI cZ cA (pgf i) ) (va_cwS 1 hts gX6_isGood_X6_kindBy rfl rfl rfl (by decide +kernel) ⟨Nat.le_of_ble_eq_true rfl, Nat.le_of_ble_eq_true rfl⟩) hE hP [] rfl rfl hl.1 rfl (Nat.le_of_ble_eq_true rfl) dX6_isGood_96 ⟨Nat.zero_le _, Nat.zero_le _⟩ ?_
        refine lv_iconst (v := (-1)) hx hb dX6_isGood_99 (by decide) ?_
        refine lv_icmp_eq (tgt := 107) hx hb dX6_isGood_100 (by decide) (fun c_100 => ?_) (fun c_100 => ?_)
        · refine lv_iconst (v := 0) hx hb dX6_isGood_107 (by decide) ?_
          refine lv_goto (tgt := 122) hx hb dX6_isGood_108 (by decide) ?_
          have e9 : (gR pgf ea i, gE pgf ea i) = (0, ea) := (by unfold gR gE zb; grind)
          have hP9 := hP.sub (ws' := [(mo, .inr (6, [.ref apg, .int (nI P), .int ((gR pgf ea i, gE pgf ea i).2), .int (nI K), .int (nI Hn), .int ym, .int tm, .ref arw, .ref ans, .ref aro, .ref abo, .int (nI Sm), .ref asi, .int sd, .ref asv, .int kt, .int ky, .int (nI ks), .ref akr, .ref akn, .ref aks, .long ha])), (apg, .inl (cI, 22, .inl pgf))]) [0, 1] (by rw [e9]; try rfl)
          have hD9 := hD.sub (ws' := [(mo, .inr (6, [.ref apg, .int (nI P), .int ((gR pgf ea i, gE pgf ea i).2), .int (nI K), .int (nI Hn), .int ym, .int tm, .ref arw, .ref ans, .ref aro, .ref abo, .int (nI Sm), .ref asi, .int sd, .ref asv, .int kt, .int ky, .int (nI ks), .ref akr, .ref akn, .ref aks, .long ha])), (apg, .inl (cI, 22, .inl pgf))]) [0, 1] (by decide) (by rw [e9]; try rfl)
          exact W.zret (v := 0) hx hb hr rfl (fun t ht hW => ⟨⟨0, (), rfl, (by rw [e9]; try rfl), by rw [ht]; exact hP9, hD9⟩, hS.F ht⟩) hS.2.2 dX6_isGood_122
        · refine lv_iconst (v := 1) hx hb dX6_isGood_103 (by decide) ?_
          refine lv_goto (tgt := 122) hx hb dX6_isGood_104 (by decide) ?_
          have e9 : (gR pgf ea i, gE pgf ea i) = (1, ea) := (by unfold gR gE zb; grind)
          have hP9 := hP.sub (ws' := [(mo, .inr (6, [.ref apg, .int (nI P), .int ((gR pgf ea i, gE pgf ea i).2), .int (nI K), .int (nI Hn), .int ym, .int tm, .ref arw, .ref ans, .ref aro, .ref abo, .int (nI Sm), .ref asi, .int sd, .ref asv, .int kt, .int ky, .int (nI ks), .ref akr, .ref akn, .ref aks, .long ha])), (apg, .inl (cI, 22, .inl pgf))]) [0, 1] (by rw [e9]; try rfl)
          have hD9 := hD.sub (ws' := [(mo, .inr (6, [.ref apg, .int (nI P), .int ((gR pgf ea i, gE pgf ea i).2), .int (nI K), .int (nI Hn), .int ym, .int tm, .ref arw, .ref ans, .ref aro, .ref abo, .int (nI Sm), .ref asi, .int sd, .ref asv, .int kt, .int ky, .int (nI ks), .ref akr, .ref akn, .ref aks, .long ha])), (apg, .inl (cI, 22, .inl pgf))]) [0, 1] (by decide) (by rw [e9]; try rfl)
          exact W.zret (v := 1) hx hb hr rfl (fun t ht hW => ⟨⟨1, (), rfl, (by rw [e9]; try rfl), by rw [ht]; exact hP9, hD9⟩, hS.F ht⟩) hS.2.2 dX6_isGood_122
    · have n_50 := zn_eq (a := i % 3) (b := 2) rfl rfl c_50 (by omega) (by omega)
      refine lv_iload_n hx hb dX6_isGood_53 rfl (lv_at hl 0 rfl) ?_
      refine lv_bipush (v := 59) hx hb dX6_isGood_54 (by decide) ?_
      refine lv_icmp_ne (tgt := 71) hx hb dX6_isGood_56 (by decide) (fun c_56 => ?_) (fun c_56 => ?_)
      · refine lv_iload_n hx hb dX6_isGood_71 rfl (lv_at hl 0 rfl) ?_
        refine lv_bipush (v := 44) hx hb dX6_isGood_72 (by decide) ?_
        refine lv_icmp_ne (tgt := 87) hx hb dX6_isGood_74 (by decide) (fun c_74 => ?_) (fun c_74 => ?_)
        · refine lv_iconst (v := 0) hx hb dX6_isGood_87 (by decide) ?_
          have e9 : (gR pgf ea i, gE pgf ea i) = (0, ea) := (by unfold gR gE zb; grind)
          have hP9 := hP.sub (ws' := [(mo, .inr (6, [.ref apg, .int (nI P), .int ((gR pgf ea i, gE pgf ea i).2), .int (nI K), .int (nI Hn), .int ym, .int tm, .ref arw, .ref ans, .ref aro, .ref abo, .int (nI Sm), .ref asi, .int sd, .ref asv, .int kt, .int ky, .int (nI ks), .ref akr, .ref akn, .ref aks, .long ha])), (apg, .inl (cI, 22, .inl pgf))]) [0, 1] (by rw [e9]; try rfl)
          have hD9 := hD.sub (ws' := [(mo, .inr (6, [.ref apg, .int (nI P), .int ((gR pgf ea i, gE pgf ea i).2), .int (nI K), .int (nI Hn), .int ym, .int tm, .ref arw, .ref ans, .ref aro, .ref abo, .int (nI Sm), .ref asi, .int sd, .ref asv, .int kt, .int ky, .int (nI ks), .ref akr, .ref akn, .ref aks, .long ha])), (apg, .inl (cI, 22, .inl pgf))]) [0, 1] (by decide) (by rw [e9]; try rfl)
          exact W.zret (v := 0) hx hb hr rfl (fun t ht hW => ⟨⟨0, (), rfl, (by rw [e9]; try rfl), by rw [ht]; exact hP9, hD9⟩, hS.F ht⟩) hS.2.2 dX6_isGood_88
        · refine lv_iload_n hx hb dX6_isGood_77 rfl (lv_at hl 2 rfl) ?_
          refine lv_bipush (v := 14) hx hb dX6_isGood_78 (by decide) ?_
          refine lv_icmp_ge (tgt := 87) hx hb dX6_isGood_80 (by decide) (fun c_80 => ?_) (fun c_80 => ?_)
          · have n_80 := zn_le (a := 14) (b := i) rfl rfl c_80 (by omega) (by omega)
            refine lv_iconst (v := 0) hx hb dX6_isGood_87 (by decide) ?_
            have e9 : (gR pgf ea i, gE pgf ea i) = (0, ea) := (by unfold gR gE zb; grind)
            have hP9 := hP.sub (ws' := [(mo, .inr (6, [.ref apg, .int (nI P), .int ((gR pgf ea i, gE pgf ea i).2), .int (nI K), .int (nI Hn), .int ym, .int tm, .ref arw, .ref ans, .ref aro, .ref abo, .int (nI Sm), .ref asi, .int sd, .ref asv, .int kt, .int ky, .int (nI ks), .ref akr, .ref akn, .ref aks, .long ha])), (apg, .inl (cI, 22, .inl pgf))]) [0, 1] (by rw [e9]; try rfl)
            have hD9 := hD.sub (ws' := [(mo, .inr (6, [.ref apg, .int (nI P), .int ((gR pgf ea i, gE pgf ea i).2), .int (nI K), .int (nI Hn), .int ym, .int tm, .ref arw, .ref ans, .ref aro, .ref abo, .int (nI Sm), .ref asi, .int sd, .ref asv, .int kt, .int ky, .int (nI ks), .ref akr, .ref akn, .ref aks, .long ha])), (apg, .inl (cI, 22, .inl pgf))]) [0, 1] (by decide) (by rw [e9]; try rfl)
            exact W.zret (v := 0) hx hb hr rfl (fun t ht hW => ⟨⟨0, (), rfl, (by rw [e9]; try rfl), by rw [ht]; exact hP9, hD9⟩, hS.F ht⟩) hS.2.2 dX6_isGood_88
          · have n_80 := zn_nle (a := 14) (b := i) rfl rfl c_80 (by omega) (by omega)
            refine lv_iconst (v := 1) hx hb dX6_isGood_83 (by decide) ?_
            refine lv_goto (tgt := 88) hx hb dX6_isGood_84 (by decide) ?_
            have e9 : (gR pgf ea i, gE pgf ea i) = (1, ea) := (by unfold gR gE zb; grind)
            have hP9 := hP.sub (ws' := [(mo, .inr (6, [.ref apg, .int (nI P), .int ((gR pgf ea i, gE pgf ea i).2), .int (nI K), .int (nI Hn), .int ym, .int tm, .ref arw, .ref ans, .ref aro, .ref abo, .int (nI Sm), .ref asi, .int sd, .ref asv, .int kt, .int ky, .int (nI ks), .ref akr, .ref akn, .ref aks, .long ha])), (apg, .inl (cI, 22, .inl pgf))]) [0, 1] (by rw [e9]; try rfl)
            have hD9 := hD.sub (ws' := [(mo, .inr (6, [.ref apg, .int (nI P), .int ((gR pgf ea i, gE pgf ea i).2), .int (nI K), .int (nI Hn), .int ym, .int tm, .ref arw, .ref ans, .ref aro, .ref abo, .int (nI Sm), .ref asi, .int sd, .ref asv, .int kt, .int ky, .int (nI ks), .ref akr, .ref akn, .ref aks, .long ha])), (apg, .inl (cI, 22, .inl pgf))]) [0, 1] (by decide) (by rw [e9]; try rfl)
            exact W.zret (v := 1) hx hb hr rfl (fun t ht hW => ⟨⟨1, (), rfl, (by rw [e9]; try rfl), by rw [ht]; exact hP9, hD9⟩, hS.F ht⟩) hS.2.2 dX6_isGood_88
      · refine lv_iload_n hx hb dX6_isGood_59 rfl (lv_at hl 2 rfl) ?_
        refine lv_iconst (v := 4) hx hb dX6_isGood_60 (by decide) ?_
        refine lv_icmp_le (tgt := 71) hx hb dX6_isGood_61 (by decide) (fun c_61 => ?_) (fun c_61 => ?_)
        · have n_61 := zn_le (a := i) (b := 4) rfl rfl c_61 (by omega) (by omega)
          refine lv_iload_n hx hb dX6_isGood_71 rfl (lv_at hl 0 rfl) ?_
          refine lv_bipush (v := 44) hx hb dX6_isGood_72 (by decide) ?_
          refine lv_icmp_ne (tgt := 87) hx hb dX6_isGood_74 (by decide) (fun c_74 => ?_) (fun c_74 => ?_)
          · refine lv_iconst (v := 0) hx hb dX6_isGood_87 (by decide) ?_
            have e9 : (gR pgf ea i, gE pgf ea i) = (0, ea) := (by unfold gR gE zb; grind)
            have hP9 := hP.sub (ws' := [(mo, .inr (6, [.ref apg, .int (nI P), .int ((gR pgf ea i, gE pgf ea i).2), .int (nI K), .int (nI Hn), .int ym, .int tm, .ref arw, .ref ans, .ref aro, .ref abo, .int (nI Sm), .ref asi, .int sd, .ref asv, .int kt, .int ky, .int (nI ks), .ref akr, .ref akn, .ref aks, .long ha])), (apg, .inl (cI, 22, .inl pgf))]) [0, 1] (by rw [e9]; try rfl)
            have hD9 := hD.sub (ws' := [(mo, .inr (6, [.ref apg, .int (nI P), .int ((gR pgf ea i, gE pgf ea i).2), .int (nI K), .int (nI Hn), .int ym, .int tm, .ref arw, .ref ans, .ref aro, .ref abo, .int (nI Sm), .ref asi, .int sd, .ref asv, .int kt, .int ky, .int (nI ks), .ref akr, .ref akn, .ref aks, .long ha])), (apg, .inl (cI, 22, .inl pgf))]) [0, 1] (by decide) (by rw [e9]; try rfl)
            exact W.zret (v := 0) hx hb hr rfl (fun t ht hW => ⟨⟨0, (), rfl, (by rw [e9]; try rfl), by rw [ht]; exact hP9, hD9⟩, hS.F ht⟩) hS.2.2 dX6_isGood_88
          · refine lv_iload_n hx hb dX6_isGood_77 rfl (lv_at hl 2 rfl) ?_
            refine lv_bipush (v := 14) hx hb dX6_isGood_78 (by decide) ?_
            refine lv_icmp_ge (tgt := 87) hx hb dX6_isGood_80 (by decide) (fun c_80 => ?_) (fun c_80 => ?_)
            · have n_80 := zn_le (a := 14) (b := i) rfl rfl c_80 (by omega) (by omega)
              refine lv_iconst (v := 0) hx hb dX6_isGood_87 (by decide) ?_
              have e9 : (gR pgf ea i, gE pgf ea i) = (0, ea) := (by unfold gR gE zb; grind)
              have hP9 := hP.sub (ws' := [(mo, .inr (6, [.ref apg, .int (nI P), .int ((gR pgf ea i, gE pgf ea i).2), .int (nI K), .int (nI Hn), .int ym, .int tm, .ref arw, .ref ans, .ref aro, .ref abo, .int (nI Sm), .ref asi, .int sd, .ref asv, .int kt, .int ky, .int (nI ks), .ref akr, .ref akn, .ref aks, .long ha])), (apg, .inl (cI, 22, .inl pgf))]) [0, 1] (by rw [e9]; try rfl)
              have hD9 := hD.sub (ws' := [(mo, .inr (6, [.ref apg, .int (nI P), .int ((gR pgf ea i, gE pgf ea i).2), .int (nI K), .int (nI Hn), .int ym, .int tm, .ref arw, .ref ans, .ref aro, .ref abo, .int (nI Sm), .ref asi, .int sd, .ref asv, .int kt, .int ky, .int (nI ks), .ref akr, .ref akn, .ref aks, .long ha])), (apg, .inl (cI, 22, .inl pgf))]) [0, 1] (by decide) (by rw [e9]; try rfl)
              exact W.zret (v := 0) hx hb hr rfl (fun t ht hW => ⟨⟨0, (), rfl, (by rw [e9]; try rfl), by rw [ht]; exact hP9, hD9⟩, hS.F ht⟩) hS.2.2 dX6_isGood_88
            · have n_80 := zn_nle (a := 14) (b := i) rfl rfl c_80 (by omega) (by omega)
              refine lv_iconst (v := 1) hx hb dX6_isGood_83 (by decide) ?_
              refine lv_goto (tgt := 88) hx hb dX6_isGood_84 (by decide) ?_
              have e9 : (gR pgf ea i, gE pgf ea i) = (1, ea) := (by unfold gR gE zb; grind)
              have hP9 := hP.sub (ws' := [(mo, .inr (6, [.ref apg, .int (nI P), .int ((gR pgf ea i, gE pgf ea i).2), .int (nI K), .int (nI Hn), .int ym, .int tm, .ref arw, .ref ans, .ref aro, .ref abo, .int (nI Sm), .ref asi, .int sd, .ref asv, .int kt, .int ky, .int (nI ks), .ref akr, .ref akn, .ref aks, .long ha])), (apg, .inl (cI, 22, .inl pgf))]) [0, 1] (by rw [e9]; try rfl)
              have hD9 := hD.sub (ws' := [(mo, .inr (6, [.ref apg, .int (nI P), .int ((gR pgf ea i, gE pgf ea i).2), .int (nI K), .int (nI Hn), .int ym, .int tm, .ref arw, .ref ans, .ref aro, .ref abo, .int (nI Sm), .ref asi, .int sd, .ref asv, .int kt, .int ky, .int (nI ks), .ref akr, .ref akn, .ref aks, .long ha])), (apg, .inl (cI, 22, .inl pgf))]) [0, 1] (by decide) (by rw [e9]; try rfl)
              exact W.zret (v := 1) hx hb hr rfl (fun t ht hW => ⟨⟨1, (), rfl, (by rw [e9]; try rfl), by rw [ht]; exact hP9, hD9⟩, hS.F ht⟩) hS.2.2 dX6_isGood_88
        · have n_61 := zn_nle (a := i) (b := 4) rfl rfl c_61 (by omega) (by omega)
          refine lv_aload_n hx hb dX6_isGood_64 rfl (lv_at hl 1 rfl) ?_
          refine lv_iload_n hx hb dX6_isGood_65 rfl (lv_at hl 2 rfl) ?_
          refine va_put (D := D) (ci := 6) (v := .int (nI i)) (ty := .int) (C := RX6) (T := TX6) (N := 22) hx hb hts hinX6 tyX6 tyX6_ok nmX6 hown hE.1 hP hD hS 0 rfl rfl 2 (by decide) k_1 (fun _ h9 => h9) rfl (by decide +kernel) rfl rfl (Nat.le_of_ble_eq_true rfl) dX6_isGood_66 (fun H locs hP hD hS => ?_)
          have hP : va_P D vwCl [(mo, .inr (6, [.ref apg, .int (nI P), .int (nI i), .int (nI K), .int (nI Hn), .int ym, .int tm, .ref arw, .ref ans, .ref aro, .ref abo, .int (nI Sm), .ref asi, .int sd, .ref asv, .int kt, .int ky, .int (nI ks), .ref akr, .ref akn, .ref aks, .long ha])), (apg, .inl (cI, 22, .inl pgf))] H := hP
          have hD : va_D A [(mo, .inr (6, [.ref apg, .int (nI P), .int (nI i), .int (nI K), .int (nI Hn), .int ym, .int tm, .ref arw, .ref ans, .ref aro, .ref abo, .int (nI Sm), .ref asi, .int sd, .ref asv, .int kt, .int ky, .int (nI ks), .ref akr, .ref akn, .ref aks, .long ha])), (apg, .inl (cI, 22, .inl pgf))] := hD
          refine lv_iconst (v := 1) hx hb dX6_isGood_69 (by decide) ?_
          have e9 : (gR pgf ea i, gE pgf ea i) = (1, nI i) := (by unfold gR gE zb; grind)
          have hP9 := hP.sub (ws' := [(mo, .inr (6, [.ref apg, .int (nI P), .int ((gR pgf ea i, gE pgf ea i).2), .int (nI K), .int (nI Hn), .int ym, .int tm, .ref arw, .ref ans, .ref aro, .ref abo, .int (nI Sm), .ref asi, .int sd, .ref asv, .int kt, .int ky, .int (nI ks), .ref akr, .ref akn, .ref aks, .long ha])), (apg, .inl (cI, 22, .inl pgf))]) [0, 1] (by rw [e9]; try rfl)
          have hD9 := hD.sub (ws' := [(mo, .inr (6, [.ref apg, .int (nI P), .int ((gR pgf ea i, gE pgf ea i).2), .int (nI K), .int (nI Hn), .int ym, .int tm, .ref arw, .ref ans, .ref aro, .ref abo, .int (nI Sm), .ref asi, .int sd, .ref asv, .int kt, .int ky, .int (nI ks), .ref akr, .ref akn, .ref aks, .long ha])), (apg, .inl (cI, 22, .inl pgf))]) [0, 1] (by decide) (by rw [e9]; try rfl)
          exact W.zret (v := 1) hx hb hr rfl (fun t ht hW => ⟨⟨1, (), rfl, (by rw [e9]; try rfl), by rw [ht]; exact hP9, hD9⟩, hS.F ht⟩) hS.2.2 dX6_isGood_70
  · refine lv_iload_n hx hb dX6_isGood_15 rfl (lv_at hl 2 rfl) ?_
    refine lv_aload_n hx hb dX6_isGood_16 rfl (lv_at hl 1 rfl) ?_
    refine va_get (D := D) (ci := 6) (v := .int ea) (C := RX6) (T := TX6) (N := 22) hx hb hts hinX6 hown hE.1 hP 0 rfl rfl 2 (by decide) k_1 (fun _ h9 => h9) rfl dX6_isGood_17 ?_
    refine lv_isub hx hb dX6_isGood_20 ?_
    refine lv_bipush (v := 6) hx hb dX6_isGood_21 (by decide) ?_
    refine lv_icmp_ge (tgt := 44) hx hb dX6_isGood_23 (by decide) (fun c_23 => ?_) (fun c_23 => ?_)
    · have c_23 := Int32.not_lt.mpr c_23
      refine lv_iconst (v := 0) hx hb dX6_isGood_44 (by decide) ?_
      have e9 : (gR pgf ea i, gE pgf ea i) = (0, ea) := (by unfold gR gE zb; grind)
      have hP9 := hP.sub (ws' := [(mo, .inr (6, [.ref apg, .int (nI P), .int ((gR pgf ea i, gE pgf ea i).2), .int (nI K), .int (nI Hn), .int ym, .int tm, .ref arw, .ref ans, .ref aro, .ref abo, .int (nI Sm), .ref asi, .int sd, .ref asv, .int kt, .int ky, .int (nI ks), .ref akr, .ref akn, .ref aks, .long ha])), (apg, .inl (cI, 22, .inl pgf))]) [0, 1] (by rw [e9]; try rfl)
      have hD9 := hD.sub (ws' := [(mo, .inr (6, [.ref apg, .int (nI P), .int ((gR pgf ea i, gE pgf ea i).2), .int (nI K), .int (nI Hn), .int ym, .int tm, .ref arw, .ref ans, .ref aro, .ref abo, .int (nI Sm), .ref asi, .int sd, .ref asv, .int kt, .int ky, .int (nI ks), .ref akr, .ref akn, .ref aks, .long ha])), (apg, .inl (cI, 22, .inl pgf))]) [0, 1] (by decide) (by rw [e9]; try rfl)
      exact W.zret (v := 0) hx hb hr rfl (fun t ht hW => ⟨⟨0, (), rfl, (by rw [e9]; try rfl), by rw [ht]; exact hP9, hD9⟩, hS.F ht⟩) hS.2.2 dX6_isGood_45
    · have c_23 := Int32.not_le.mp c_23
      refine lv_iload_n hx hb dX6_isGood_26 rfl (lv_at hl 0 rfl) ?_
      refine lv_i2l (v := (pgf i : Int32).toInt64) hx hb dX6_isGood_27 rfl ?_
      refine lv_ldc2 (v := 48) hx hb hown k_2 dX6_isGood_28 ?_
      refine lv_ldc2 (v := 57) hx hb hown k_3 dX6_isGood_31 ?_
      refine z_roSi (As := [.long ((pgf i : Int32).toInt64), .long 48, .long 57]) (rest := []) ⟨hx, hb, hml, hown, hts⟩ (c_X6_in l D cI cZ cA ((pgf i : Int32).toInt64) 48 57 ) (va_cwS 3 hts gX6_isGood_X6_in rfl rfl rfl (by decide +kernel) ⟨Nat.le_of_ble_eq_true rfl, Nat.le_of_ble_eq_true rfl⟩) hE hP [] rfl rfl hl.1 rfl (Nat.le_of_ble_eq_true rfl) dX6_isGood_34 ⟨Nat.zero_le _, Nat.zero_le _⟩ ?_
      refine lv_if_eq (tgt := 44) hx hb dX6_isGood_37 (by decide) (fun c_37 => ?_) (fun c_37 => ?_)
      · have c_37 := zb_0 c_37
        rw [zin (lo := 48) (hi := 57) (by decide) (by decide)] at c_37
        refine lv_iconst (v := 0) hx hb dX6_isGood_44 (by decide) ?_
        have e9 : (gR pgf ea i, gE pgf ea i) = (0, ea) := (by unfold gR gE zb; grind)
        have hP9 := hP.sub (ws' := [(mo, .inr (6, [.ref apg, .int (nI P), .int ((gR pgf ea i, gE pgf ea i).2), .int (nI K), .int (nI Hn), .int ym, .int tm, .ref arw, .ref ans, .ref aro, .ref abo, .int (nI Sm), .ref asi, .int sd, .ref asv, .int kt, .int ky, .int (nI ks), .ref akr, .ref akn, .ref aks, .long ha])), (apg, .inl (cI, 22, .inl pgf))]) [0, 1] (by rw [e9]; try rfl)
        have hD9 := hD.sub (ws' := [(mo, .inr (6, [.ref apg, .int (nI P), .int ((gR pgf ea i, gE pgf ea i).2), .int (nI K), .int (nI Hn), .int ym, .int tm, .ref arw, .ref ans, .ref aro, .ref abo, .int (nI Sm), .ref asi, .int sd, .ref asv, .int kt, .int ky, .int (nI ks), .ref akr, .ref akn, .ref aks, .long ha])), (apg, .inl (cI, 22, .inl pgf))]) [0, 1] (by decide) (by rw [e9]; try rfl)
        exact W.zret (v := 0) hx hb hr rfl (fun t ht hW => ⟨⟨0, (), rfl, (by rw [e9]; try rfl), by rw [ht]; exact hP9, hD9⟩, hS.F ht⟩) hS.2.2 dX6_isGood_45
      · have c_37 := zb_1 c_37
        rw [zin (lo := 48) (hi := 57) (by decide) (by decide)] at c_37
        refine lv_iconst (v := 1) hx hb dX6_isGood_40 (by decide) ?_
        refine lv_goto (tgt := 45) hx hb dX6_isGood_41 (by decide) ?_
        have e9 : (gR pgf ea i, gE pgf ea i) = (1, ea) := (by unfold gR gE zb; grind)
        have hP9 := hP.sub (ws' := [(mo, .inr (6, [.ref apg, .int (nI P), .int ((gR pgf ea i, gE pgf ea i).2), .int (nI K), .int (nI Hn), .int ym, .int tm, .ref arw, .ref ans, .ref aro, .ref abo, .int (nI Sm), .ref asi, .int sd, .ref asv, .int kt, .int ky, .int (nI ks), .ref akr, .ref akn, .ref aks, .long ha])), (apg, .inl (cI, 22, .inl pgf))]) [0, 1] (by rw [e9]; try rfl)
        have hD9 := hD.sub (ws' := [(mo, .inr (6, [.ref apg, .int (nI P), .int ((gR pgf ea i, gE pgf ea i).2), .int (nI K), .int (nI Hn), .int ym, .int tm, .ref arw, .ref ans, .ref aro, .ref abo, .int (nI Sm), .ref asi, .int sd, .ref asv, .int kt, .int ky, .int (nI ks), .ref akr, .ref akn, .ref aks, .long ha])), (apg, .inl (cI, 22, .inl pgf))]) [0, 1] (by decide) (by rw [e9]; try rfl)
        exact W.zret (v := 1) hx hb hr rfl (fun t ht hW => ⟨⟨1, (), rfl, (by rw [e9]; try rfl), by rw [ht]; exact hP9, hD9⟩, hS.F ht⟩) hS.2.2 dX6_isGood_45

set_option maxHeartbeats 4000000 in
set_option maxRecDepth 100000 in
theorem c_X6_faultOf (l : Launch) (D : va_G) (cI cZ cA : ClassId) (sz : Nat) (mo : Nat) (apg : Nat) (P : Nat) (ea : Int32) (K : Nat) (Hn : Nat) (ym : Int32) (tm : Int32) (arw : Nat) (ans : Nat) (aro : Nat) (abo : Nat) (Sm : Nat) (asi : Nat) (sd : Int32) (asv : Nat) (kt : Int32) (ky : Int32) (ks : Nat) (akr : Nat) (akn : Nat) (aks : Nat) (ha : Int64) (pgf : Nat → Int32) (hP22 : P ≤ 22) : Met l yX6_faultOf wsX6_faultOf (zr 3) (va_Pc [.ref mo] (zPw D cI cZ cA [(mo, .inr (6, [.ref apg, .int (nI P), .int ea, .int (nI K), .int (nI Hn), .int ym, .int tm, .ref arw, .ref ans, .ref aro, .ref abo, .int (nI Sm), .ref asi, .int sd, .ref asv, .int kt, .int ky, .int (nI ks), .ref akr, .ref akn, .ref aks, .long ha])), (apg, .inl (cI, 22, .inl pgf))] sz)) (va_Qi (fun (r : Int32) (_ : Unit) => r = nI (scM pgf P).1) (zB D [(mo, .inr (6, [.ref apg, .int (nI P), .int ((scM pgf P).2), .int (nI K), .int (nI Hn), .int ym, .int tm, .ref arw, .ref ans, .ref aro, .ref abo, .int (nI Sm), .ref asi, .int sd, .ref asv, .int kt, .int ky, .int (nI ks), .ref akr, .ref akn, .ref aks, .long ha])), (apg, .inl (cI, 22, .inl pgf))] (va_A [(mo, .inr (6, [.ref apg, .int (nI P), .int ea, .int (nI K), .int (nI Hn), .int ym, .int tm, .ref arw, .ref ans, .ref aro, .ref abo, .int (nI Sm), .ref asi, .int sd, .ref asv, .int kt, .int ky, .int (nI ks), .ref akr, .ref akn, .ref aks, .long ha])), (apg, .inl (cI, 22, .inl pgf))] sz)) (va_A [(mo, .inr (6, [.ref apg, .int (nI P), .int ea, .int (nI K), .int (nI Hn), .int ym, .int tm, .ref arw, .ref ans, .ref aro, .ref abo, .int (nI Sm), .ref asi, .int sd, .ref asv, .int kt, .int ky, .int (nI ks), .ref akr, .ref akn, .ref aks, .long ha])), (apg, .inl (cI, 22, .inl pgf))] sz)) 0 0 (va_A [(mo, .inr (6, [.ref apg, .int (nI P), .int ea, .int (nI K), .int (nI Hn), .int ym, .int tm, .ref arw, .ref ans, .ref aro, .ref abo, .int (nI Sm), .ref asi, .int sd, .ref asv, .int kt, .int ky, .int (nI ks), .ref akr, .ref akn, .ref aks, .long ha])), (apg, .inl (cI, 22, .inl pgf))] sz) := by
  refine Met.ofW (cc := cX6_faultOf) (maxL := 2) (ret := (some .int)) (by decide) rfl ?_
  intro p e s m args below meth c s₁ B hml hv
  obtain ⟨rfl, hsz, hP, hD0, hE⟩ := hv
  have hx := B.exec
  have hb := B.bytes
  have hr := B.returns
  have hts := atoms_spec (ws := wsX6_faultOf) B.pre
  have hown : s.vm.findClass RX6 = some m.cls := findClass_of_methodNamed B.named
  have hlocks := B.notSynchronized
  subst hsz
  have hD := hD0.self (sz := s.heap.size)
  generalize hAe : va_A [(mo, .inr (6, [.ref apg, .int (nI P), .int ea, .int (nI K), .int (nI Hn), .int ym, .int tm, .ref arw, .ref ans, .ref aro, .ref abo, .int (nI Sm), .ref asi, .int sd, .ref asv, .int kt, .int ky, .int (nI ks), .ref akr, .ref akn, .ref aks, .long ha])), (apg, .inl (cI, 22, .inl pgf))] s.heap.size = A at hD ⊢
  have hA : ∀ q : Nat, s.heap.size ≤ q → A q := fun q h => by rw [← hAe]; exact Or.inr h
  have hS : va_S A s.heap s.heap [] := va_S.rf
  have hP : va_P D vwCl [(mo, .inr (6, [.ref apg, .int (nI P), .int ea, .int (nI K), .int (nI Hn), .int ym, .int tm, .ref arw, .ref ans, .ref aro, .ref abo, .int (nI Sm), .ref asi, .int sd, .ref asv, .int kt, .int ky, .int (nI ks), .ref akr, .ref akn, .ref aks, .long ha])), (apg, .inl (cI, 22, .inl pgf))] s.heap := hP
  have hD : va_D A [(mo, .inr (6, [.ref apg, .int (nI P), .int ea, .int (nI K), .int (nI Hn), .int ym, .int tm, .ref arw, .ref ans, .ref aro, .ref abo, .int (nI Sm), .ref asi, .int sd, .ref asv, .int kt, .int ky, .int (nI ks), .ref akr, .ref akn, .ref aks, .long ha])), (apg, .inl (cI, 22, .inl pgf))] := hD
  have hl := lv_entry ([.ref mo]) (n := 2) (Nat.le_of_ble_eq_true rfl)
  rw [lg_entry_eq]
  generalize (lg_sl ([.ref mo]) ++ List.replicate (2 - (lg_sl ([.ref mo])).length) Slot.unset).toArray = ls at hl ⊢
  have hl : lv_has ls 2 [(0, .ref mo)] := hl
  have hinX6 : ∀ w ∈ wsX60, w ∈ wsX6_faultOf := fun w h => List.mem_cons_of_mem _ (List.mem_append_right _ h)
  have k_0 := hts (.fieldLink RX6 53 "VowDovesModel" "endAt" "I") (by decide +kernel)
  have k_1 := hts (.fieldLink RX6 50 "VowDovesModel" "pageMany" "I") (by decide +kernel)
  refine lv_aload_n hx hb dX6_faultOf_0 rfl (lv_at hl 0 rfl) ?_
  refine lv_iconst (v := (-1)) hx hb dX6_faultOf_1 (by decide) ?_
  refine va_put (D := D) (ci := 6) (v := .int (-1)) (ty := .int) (C := RX6) (T := TX6) (N := 22) hx hb hts hinX6 tyX6 tyX6_ok nmX6 hown hE.1 hP hD hS 0 rfl rfl 2 (by decide) k_0 (fun _ h9 => h9) rfl (by decide +kernel) rfl rfl (Nat.le_of_ble_eq_true rfl) dX6_faultOf_2 (fun H locs hP hD hS => ?_)
  have hP : va_P D vwCl [(mo, .inr (6, [.ref apg, .int (nI P), .int (-1), .int (nI K), .int (nI Hn), .int ym, .int tm, .ref arw, .ref ans, .ref aro, .ref abo, .int (nI Sm), .ref asi, .int sd, .ref asv, .int kt, .int ky, .int (nI ks), .ref akr, .ref akn, .ref aks, .long ha])), (apg, .inl (cI, 22, .inl pgf))] H := hP
  have hD : va_D A [(mo, .inr (6, [.ref apg, .int (nI P), .int (-1), .int (nI K), .int (nI Hn), .int ym, .int tm, .ref arw, .ref ans, .ref aro, .ref abo, .int (nI Sm), .ref asi, .int sd, .ref asv, .int kt, .int ky, .int (nI ks), .ref akr, .ref akn, .ref aks, .long ha])), (apg, .inl (cI, 22, .inl pgf))] := hD
  refine lv_iconst (v := 0) hx hb dX6_faultOf_5 (by decide) ?_
  refine lv_istore_n (lv' := [(1, .int 0), (0, .ref mo)]) hx hb dX6_faultOf_6 rfl hl (by decide) rfl (fun ls hl => ?_)
  have hc7_1 : ∀ (n : Nat) (i : Nat) (e0 : Int32), (i ≤ P) → (scF (gR pgf) (gE pgf) (P - i) i e0 = scM pgf P) → (P + 1 ≤ i + n) → ∀ (w1 : Int32), w1 = nI i → ∀ (H : Heap) (locs : List Loc), va_P D vwCl [(mo, .inr (6, [.ref apg, .int (nI P), .int e0, .int (nI K), .int (nI Hn), .int ym, .int tm, .ref arw, .ref ans, .ref aro, .ref abo, .int (nI Sm), .ref asi, .int sd, .ref asv, .int kt, .int ky, .int (nI ks), .ref akr, .ref akn, .ref aks, .long ha])), (apg, .inl (cI, 22, .inl pgf))] H → va_D A [(mo, .inr (6, [.ref apg, .int (nI P), .int e0, .int (nI K), .int (nI Hn), .int ym, .int tm, .ref arw, .ref ans, .ref aro, .ref abo, .int (nI Sm), .ref asi, .int sd, .ref asv, .int kt, .int ky, .int (nI ks), .ref akr, .ref akn, .ref aks, .long ha])), (apg, .inl (cI, 22, .inl pgf))] → va_S A s.heap H locs → ∀ (ls : Array Slot), lv_has ls 2 [(1, .int w1), (0, .ref mo)] → W p l e (headSpec wsX6_faultOf (zr 3)).room s m ([.ref mo] : List Value).toArray below meth c H locs 0 0 (MQ below (va_Qi (fun (r : Int32) (_ : Unit) => r = nI (scM pgf P).1) (zB D [(mo, .inr (6, [.ref apg, .int (nI P), .int ((scM pgf P).2), .int (nI K), .int (nI Hn), .int ym, .int tm, .ref arw, .ref ans, .ref aro, .ref abo, .int (nI Sm), .ref asi, .int sd, .ref asv, .int kt, .int ky, .int (nI ks), .ref akr, .ref akn, .ref aks, .long ha])), (apg, .inl (cI, 22, .inl pgf))] A) A) ([.ref mo] : List Value).toArray s 0 0 A) (F0 m 7 ls []) := by
    intro n
    induction n with
    | zero => intro i e0 hi hs hfu; exact absurd hfu (by omega)
    | succ n ihhc7_1 =>
      intro i e0 hi hs hfu w1 ew1 H locs hP hD hS ls hl
      subst ew1
      refine lv_iload_n hx hb dX6_faultOf_7 rfl (lv_at hl 0 rfl) ?_
      refine lv_aload_n hx hb dX6_faultOf_8 rfl (lv_at hl 1 rfl) ?_
      refine va_get (D := D) (ci := 6) (v := .int (nI P)) (C := RX6) (T := TX6) (N := 22) hx hb hts hinX6 hown hE.1 hP 0 rfl rfl 1 (by decide) k_1 (fun _ h9 => h9) rfl dX6_faultOf_9 ?_
      refine lv_icmp_ge (tgt := 29) hx hb dX6_faultOf_12 (by decide) (fun c_12 => ?_) (fun c_12 => ?_)
      · have n_12 := zn_le (a := P) (b := i) rfl rfl c_12 (by omega) (by omega)
        have e8 : scM pgf P = (i, e0) := by
          rw [← hs, show P - i = 0 by omega]
          rfl
        refine lv_iload_n hx hb dX6_faultOf_29 rfl (lv_at hl 0 rfl) ?_
        have hP9 := hP.sub (ws' := [(mo, .inr (6, [.ref apg, .int (nI P), .int ((scM pgf P).2), .int (nI K), .int (nI Hn), .int ym, .int tm, .ref arw, .ref ans, .ref aro, .ref abo, .int (nI Sm), .ref asi, .int sd, .ref asv, .int kt, .int ky, .int (nI ks), .ref akr, .ref akn, .ref aks, .long ha])), (apg, .inl (cI, 22, .inl pgf))]) [0, 1] (by rw [e8]; try rfl)
        have hD9 := hD.sub (ws' := [(mo, .inr (6, [.ref apg, .int (nI P), .int ((scM pgf P).2), .int (nI K), .int (nI Hn), .int ym, .int tm, .ref arw, .ref ans, .ref aro, .ref abo, .int (nI Sm), .ref asi, .int sd, .ref asv, .int kt, .int ky, .int (nI ks), .ref akr, .ref akn, .ref aks, .long ha])), (apg, .inl (cI, 22, .inl pgf))]) [0, 1] (by decide) (by rw [e8]; try rfl)
        exact W.iret (v := nI i) hx hb hr (fun t ht hW => ⟨⟨(nI i), (), rfl, (by rw [e8]; try rfl), by rw [ht]; exact hP9, hD9⟩, hS.F ht⟩) hS.2.2 dX6_faultOf_30
      · have n_12 := zn_nle (a := P) (b := i) rfl rfl c_12 (by omega) (by omega)
        refine lv_aload_n hx hb dX6_faultOf_15 rfl (lv_at hl 1 rfl) ?_
        refine lv_iload_n hx hb dX6_faultOf_16 rfl (lv_at hl 0 rfl) ?_
        refine z_rwVi (As := [.int (nI i)]) (rest := []) (wr := []) (w1 := [(mo, .inr (6, [.ref apg, .int (nI P), .int ((gR pgf e0 i, gE pgf e0 i).2), .int (nI K), .int (nI Hn), .int ym, .int tm, .ref arw, .ref ans, .ref aro, .ref abo, .int (nI Sm), .ref asi, .int sd, .ref asv, .int kt, .int ky, .int (nI ks), .ref akr, .ref akn, .ref aks, .long ha])), (apg, .inl (cI, 22, .inl pgf))]) ⟨hx, hb, hml, hown, hts⟩ (c_X6_isGood l D cI cZ cA _ mo apg P e0 K Hn ym tm arw ans aro abo Sm asi sd asv kt ky ks akr akn aks ha pgf i (by first | assumption | omega)) (cwV 1 hts gX6_faultOf_X6_isGood rfl rfl rfl (by decide +kernel) ⟨Nat.le_of_ble_eq_true rfl, Nat.le_of_ble_eq_true rfl⟩) hE hP hD hS hA [0, 1] [] rfl rfl rfl (by decide) (by decide) (by decide) 0 6 rfl rfl rfl hl.1 rfl (Nat.le_of_ble_eq_true rfl) dX6_faultOf_17 ⟨Nat.zero_le _, Nat.zero_le _⟩ (fun H locs hP hD hS => ?_)
        have hP : va_P D vwCl [(mo, .inr (6, [.ref apg, .int (nI P), .int ((gR pgf e0 i, gE pgf e0 i).2), .int (nI K), .int (nI Hn), .int ym, .int tm, .ref arw, .ref ans, .ref aro, .ref abo, .int (nI Sm), .ref asi, .int sd, .ref asv, .int kt, .int ky, .int (nI ks), .ref akr, .ref akn, .ref aks, .long ha])), (apg, .inl (cI, 22, .inl pgf))] H := hP
        have hD : va_D A [(mo, .inr (6, [.ref apg, .int (nI P), .int ((gR pgf e0 i, gE pgf e0 i).2), .int (nI K), .int (nI Hn), .int ym, .int tm, .ref arw, .ref ans, .ref aro, .ref abo, .int (nI Sm), .ref asi, .int sd, .ref asv, .int kt, .int ky, .int (nI ks), .ref akr, .ref akn, .ref aks, .long ha])), (apg, .inl (cI, 22, .inl pgf))] := hD
        refine lv_if_eq (tgt := 29) hx hb dX6_faultOf_20 (by decide) (fun c_20 => ?_) (fun c_20 => ?_)
        · have e8 : scM pgf P = (i, gE pgf e0 i) := by
            rw [← hs, show P - i = (P - (i + 1)) + 1 by omega, scF, if_pos c_20]
          refine lv_iload_n hx hb dX6_faultOf_29 rfl (lv_at hl 0 rfl) ?_
          have hP9 := hP.sub (ws' := [(mo, .inr (6, [.ref apg, .int (nI P), .int ((scM pgf P).2), .int (nI K), .int (nI Hn), .int ym, .int tm, .ref arw, .ref ans, .ref aro, .ref abo, .int (nI Sm), .ref asi, .int sd, .ref asv, .int kt, .int ky, .int (nI ks), .ref akr, .ref akn, .ref aks, .long ha])), (apg, .inl (cI, 22, .inl pgf))]) [0, 1] (by rw [e8]; try rfl)
          have hD9 := hD.sub (ws' := [(mo, .inr (6, [.ref apg, .int (nI P), .int ((scM pgf P).2), .int (nI K), .int (nI Hn), .int ym, .int tm, .ref arw, .ref ans, .ref aro, .ref abo, .int (nI Sm), .ref asi, .int sd, .ref asv, .int kt, .int ky, .int (nI ks), .ref akr, .ref akn, .ref aks, .long ha])), (apg, .inl (cI, 22, .inl pgf))]) [0, 1] (by decide) (by rw [e8]; try rfl)
          exact W.iret (v := nI i) hx hb hr (fun t ht hW => ⟨⟨(nI i), (), rfl, (by rw [e8]; try rfl), by rw [ht]; exact hP9, hD9⟩, hS.F ht⟩) hS.2.2 dX6_faultOf_30
        · have hs2 : scF (gR pgf) (gE pgf) (P - (i + 1)) (i + 1) (gE pgf e0 i) = scM pgf P := by
            rw [← hs, show P - i = (P - (i + 1)) + 1 by omega, scF, if_neg c_20]
          refine lv_iinc (v := nI (i + 1)) (lv' := [(1, .int (nI (i + 1))), (0, .ref mo)]) hx hb dX6_faultOf_23 hl (k := 0) rfl (nI_add i 1) (by decide) rfl (fun ls hl => ?_)
          refine lv_goto (tgt := 7) hx hb dX6_faultOf_26 (by decide) ?_
          exact ihhc7_1 (i + 1) (gE pgf e0 i) (by omega) hs2 (by omega) (nI (i + 1)) rfl _ _ (hP.sub [0, 1] rfl) (hD.sub [0, 1] (by decide) rfl) hS ls (lv_sub hl [0, 1] rfl)
  exact hc7_1 (P + 1) 0 (-1) (by omega) rfl (by omega) 0 rfl _ _ (hP.sub [0, 1] rfl) (hD.sub [0, 1] (by decide) rfl) hS ls (lv_sub hl [0, 1] rfl)

set_option maxHeartbeats 4000000 in
set_option maxRecDepth 100000 in
theorem c_X6_fault (l : Launch) (D : va_G) (cI cZ cA : ClassId) (sz : Nat) (mo : Nat) (apg : Nat) (P : Nat) (ea : Int32) (K : Nat) (Hn : Nat) (ym : Int32) (tm : Int32) (arw : Nat) (ans : Nat) (aro : Nat) (abo : Nat) (Sm : Nat) (asi : Nat) (sd : Int32) (asv : Nat) (kt : Int32) (ky : Int32) (ks : Nat) (akr : Nat) (akn : Nat) (aks : Nat) (ha : Int64) (pgf : Nat → Int32) (hP22 : P ≤ 22) : Met l yX6_fault wsX6_fault (zr 4) (va_Pc [.ref mo] (zPw D cI cZ cA [(mo, .inr (6, [.ref apg, .int (nI P), .int ea, .int (nI K), .int (nI Hn), .int ym, .int tm, .ref arw, .ref ans, .ref aro, .ref abo, .int (nI Sm), .ref asi, .int sd, .ref asv, .int kt, .int ky, .int (nI ks), .ref akr, .ref akn, .ref aks, .long ha])), (apg, .inl (cI, 22, .inl pgf))] sz)) (va_Qi (fun (r : Int32) (_ : Unit) => r = nI (scM pgf P).1) (zB D [(mo, .inr (6, [.ref apg, .int (nI P), .int ((scM pgf P).2), .int (nI K), .int (nI Hn), .int ym, .int tm, .ref arw, .ref ans, .ref aro, .ref abo, .int (nI Sm), .ref asi, .int sd, .ref asv, .int kt, .int ky, .int (nI ks), .ref akr, .ref akn, .ref aks, .long ha])), (apg, .inl (cI, 22, .inl pgf))] (va_A [(mo, .inr (6, [.ref apg, .int (nI P), .int ea, .int (nI K), .int (nI Hn), .int ym, .int tm, .ref arw, .ref ans, .ref aro, .ref abo, .int (nI Sm), .ref asi, .int sd, .ref asv, .int kt, .int ky, .int (nI ks), .ref akr, .ref akn, .ref aks, .long ha])), (apg, .inl (cI, 22, .inl pgf))] sz)) (va_A [(mo, .inr (6, [.ref apg, .int (nI P), .int ea, .int (nI K), .int (nI Hn), .int ym, .int tm, .ref arw, .ref ans, .ref aro, .ref abo, .int (nI Sm), .ref asi, .int sd, .ref asv, .int kt, .int ky, .int (nI ks), .ref akr, .ref akn, .ref aks, .long ha])), (apg, .inl (cI, 22, .inl pgf))] sz)) 0 0 (va_A [(mo, .inr (6, [.ref apg, .int (nI P), .int ea, .int (nI K), .int (nI Hn), .int ym, .int tm, .ref arw, .ref ans, .ref aro, .ref abo, .int (nI Sm), .ref asi, .int sd, .ref asv, .int kt, .int ky, .int (nI ks), .ref akr, .ref akn, .ref aks, .long ha])), (apg, .inl (cI, 22, .inl pgf))] sz) := by
  refine Met.ofW (cc := cX6_fault) (maxL := 1) (ret := (some .int)) (by decide) rfl ?_
  intro p e s m args below meth c s₁ B hml hv
  obtain ⟨rfl, hsz, hP, hD0, hE⟩ := hv
  have hx := B.exec
  have hb := B.bytes
  have hr := B.returns
  have hts := atoms_spec (ws := wsX6_fault) B.pre
  have hown : s.vm.findClass RX6 = some m.cls := findClass_of_methodNamed B.named
  have hlocks := B.notSynchronized
  subst hsz
  have hD := hD0.self (sz := s.heap.size)
  generalize hAe : va_A [(mo, .inr (6, [.ref apg, .int (nI P), .int ea, .int (nI K), .int (nI Hn), .int ym, .int tm, .ref arw, .ref ans, .ref aro, .ref abo, .int (nI Sm), .ref asi, .int sd, .ref asv, .int kt, .int ky, .int (nI ks), .ref akr, .ref akn, .ref aks, .long ha])), (apg, .inl (cI, 22, .inl pgf))] s.heap.size = A at hD ⊢
  have hA : ∀ q : Nat, s.heap.size ≤ q → A q := fun q h => by rw [← hAe]; exact Or.inr h
  have hS : va_S A s.heap s.heap [] := va_S.rf
  have hP : va_P D vwCl [(mo, .inr (6, [.ref apg, .int (nI P), .int ea, .int (nI K), .int (nI Hn), .int ym, .int tm, .ref arw, .ref ans, .ref aro, .ref abo, .int (nI Sm), .ref asi, .int sd, .ref asv, .int kt, .int ky, .int (nI ks), .ref akr, .ref akn, .ref aks, .long ha])), (apg, .inl (cI, 22, .inl pgf))] s.heap := hP
  have hD : va_D A [(mo, .inr (6, [.ref apg, .int (nI P), .int ea, .int (nI K), .int (nI Hn), .int ym, .int tm, .ref arw, .ref ans, .ref aro, .ref abo, .int (nI Sm), .ref asi, .int sd, .ref asv, .int kt, .int ky, .int (nI ks), .ref akr, .ref akn, .ref aks, .long ha])), (apg, .inl (cI, 22, .inl pgf))] := hD
  have hl := lv_entry ([.ref mo]) (n := 1) (Nat.le_of_ble_eq_true rfl)
  rw [lg_entry_eq]
  generalize (lg_sl ([.ref mo]) ++ List.replicate (1 - (lg_sl ([.ref mo])).length) Slot.unset).toArray = ls at hl ⊢
  have hl : lv_has ls 1 [(0, .ref mo)] := hl
  refine lv_aload_n hx hb dX6_fault_0 rfl (lv_at hl 0 rfl) ?_
  refine z_rwVi (As := []) (rest := []) (wr := []) (w1 := [(mo, .inr (6, [.ref apg, .int (nI P), .int ((scM pgf P).2), .int (nI K), .int (nI Hn), .int ym, .int tm, .ref arw, .ref ans, .ref aro, .ref abo, .int (nI Sm), .ref asi, .int sd, .ref asv, .int kt, .int ky, .int (nI ks), .ref akr, .ref akn, .ref aks, .long ha])), (apg, .inl (cI, 22, .inl pgf))]) ⟨hx, hb, hml, hown, hts⟩ (c_X6_faultOf l D cI cZ cA _ mo apg P ea K Hn ym tm arw ans aro abo Sm asi sd asv kt ky ks akr akn aks ha pgf (by first | assumption | omega)) (cwV 0 hts gX6_fault_X6_faultOf rfl rfl rfl (by decide +kernel) ⟨Nat.le_of_ble_eq_true rfl, Nat.le_of_ble_eq_true rfl⟩) hE hP hD hS hA [0, 1] [] rfl rfl rfl (by decide) (by decide) (by decide) 0 6 rfl rfl rfl hl.1 rfl (Nat.le_of_ble_eq_true rfl) dX6_fault_1 ⟨Nat.zero_le _, Nat.zero_le _⟩ (fun H locs hP hD hS => ?_)
  have hP : va_P D vwCl [(mo, .inr (6, [.ref apg, .int (nI P), .int ((scM pgf P).2), .int (nI K), .int (nI Hn), .int ym, .int tm, .ref arw, .ref ans, .ref aro, .ref abo, .int (nI Sm), .ref asi, .int sd, .ref asv, .int kt, .int ky, .int (nI ks), .ref akr, .ref akn, .ref aks, .long ha])), (apg, .inl (cI, 22, .inl pgf))] H := hP
  have hD : va_D A [(mo, .inr (6, [.ref apg, .int (nI P), .int ((scM pgf P).2), .int (nI K), .int (nI Hn), .int ym, .int tm, .ref arw, .ref ans, .ref aro, .ref abo, .int (nI Sm), .ref asi, .int sd, .ref asv, .int kt, .int ky, .int (nI ks), .ref akr, .ref akn, .ref aks, .long ha])), (apg, .inl (cI, 22, .inl pgf))] := hD
  have hP9 := hP.sub (ws' := [(mo, .inr (6, [.ref apg, .int (nI P), .int ((scM pgf P).2), .int (nI K), .int (nI Hn), .int ym, .int tm, .ref arw, .ref ans, .ref aro, .ref abo, .int (nI Sm), .ref asi, .int sd, .ref asv, .int kt, .int ky, .int (nI ks), .ref akr, .ref akn, .ref aks, .long ha])), (apg, .inl (cI, 22, .inl pgf))]) [0, 1] rfl
  have hD9 := hD.sub (ws' := [(mo, .inr (6, [.ref apg, .int (nI P), .int ((scM pgf P).2), .int (nI K), .int (nI Hn), .int ym, .int tm, .ref arw, .ref ans, .ref aro, .ref abo, .int (nI Sm), .ref asi, .int sd, .ref asv, .int kt, .int ky, .int (nI ks), .ref akr, .ref akn, .ref aks, .long ha])), (apg, .inl (cI, 22, .inl pgf))]) [0, 1] (by decide) rfl
  exact W.iret (v := (nI (scM pgf P).1)) hx hb hr (fun t ht hW => ⟨⟨(nI (scM pgf P).1), (), rfl, rfl, by rw [ht]; exact hP9, hD9⟩, hS.F ht⟩) hS.2.2 dX6_fault_4

set_option maxHeartbeats 4000000 in
set_option maxRecDepth 100000 in
theorem c_X6_tellHole (l : Launch) (D : va_G) (cI cZ cA : ClassId) (mo : Nat) (apg : Nat) (P : Nat) (ea : Int32) (K : Nat) (Hn : Nat) (ym : Int32) (tm : Int32) (arw : Nat) (ans : Nat) (aro : Nat) (abo : Nat) (Sm : Nat) (asi : Nat) (sd : Int32) (asv : Nat) (kt : Int32) (ky : Int32) (ks : Nat) (akr : Nat) (akn : Nat) (aks : Nat) (ha : Int64) (rw : Nat → Int32) (ns : Nat → Int32) (h : Nat) (what : Int32) (hK : K ≤ 5) (hh : h < Hn) (hH : Hn ≤ 5) (ok : letOk ns K Hn) : Met l yX6_tellHole wsX6_tellHole (zr 4) (va_Pc [.ref mo, .int (nI h), .int what] (zPr D cI cZ cA [(mo, .inr (6, [.ref apg, .int (nI P), .int ea, .int (nI K), .int (nI Hn), .int ym, .int tm, .ref arw, .ref ans, .ref aro, .ref abo, .int (nI Sm), .ref asi, .int sd, .ref asv, .int kt, .int ky, .int (nI ks), .ref akr, .ref akn, .ref aks, .long ha])), (arw, .inl (cI, 15, .inl rw)), (ans, .inl (cI, 20, .inl ns))])) (vp_Si (fun r => r = tellH rw ns h what)) 0 0 (fun _ => False) := by
  refine Met.ofW (cc := cX6_tellHole) (maxL := 3) (ret := (some .int)) (by decide) rfl ?_
  intro p e s m args below meth c s₁ B hml hv
  obtain ⟨rfl, hP, hE⟩ := hv
  have hx := B.exec
  have hb := B.bytes
  have hr := B.returns
  have hts := atoms_spec (ws := wsX6_tellHole) B.pre
  have hown : s.vm.findClass RX6 = some m.cls := findClass_of_methodNamed B.named
  have hlocks := B.notSynchronized
  have hP : va_P D vwCl [(mo, .inr (6, [.ref apg, .int (nI P), .int ea, .int (nI K), .int (nI Hn), .int ym, .int tm, .ref arw, .ref ans, .ref aro, .ref abo, .int (nI Sm), .ref asi, .int sd, .ref asv, .int kt, .int ky, .int (nI ks), .ref akr, .ref akn, .ref aks, .long ha])), (arw, .inl (cI, 15, .inl rw)), (ans, .inl (cI, 20, .inl ns))] s.heap := hP
  have hl := lv_entry ([.ref mo, .int (nI h), .int what]) (n := 3) (Nat.le_of_ble_eq_true rfl)
  rw [lg_entry_eq]
  generalize (lg_sl ([.ref mo, .int (nI h), .int what]) ++ List.replicate (3 - (lg_sl ([.ref mo, .int (nI h), .int what])).length) Slot.unset).toArray = ls at hl ⊢
  have hl : lv_has ls 3 [(0, .ref mo), (1, .int (nI h)), (2, .int what)] := hl
  have hinX6 : ∀ w ∈ wsX60, w ∈ wsX6_tellHole := fun w h => List.mem_cons_of_mem _ (List.mem_append_right _ h)
  have k_0 := hts (.constantLong RX6 121 (3)) (by decide +kernel)
  have k_1 := hts (.fieldLink RX6 16 "VowDovesModel" "nests" "[I") (by decide +kernel)
  refine lv_iload_n hx hb dX6_tellHole_0 rfl (lv_at hl 2 rfl) ?_
  refine lv_i2l (v := (what : Int32).toInt64) hx hb dX6_tellHole_1 rfl ?_
  refine lv_lconst (v := 0) hx hb dX6_tellHole_2 (by decide) ?_
  refine lv_ldc2 (v := 3) hx hb hown k_0 dX6_tellHole_3 ?_
  refine z_roSi (As := [.long ((what : Int32).toInt64), .long 0, .long 3]) (rest := []) ⟨hx, hb, hml, hown, hts⟩ (c_X6_in l D cI cZ cA ((what : Int32).toInt64) 0 3 ) (va_cwS 3 hts gX6_tellHole_X6_in rfl rfl rfl (by decide +kernel) ⟨Nat.le_of_ble_eq_true rfl, Nat.le_of_ble_eq_true rfl⟩) hE hP [] rfl rfl hl.1 rfl (Nat.le_of_ble_eq_true rfl) dX6_tellHole_6 ⟨Nat.zero_le _, Nat.zero_le _⟩ ?_
  refine lv_if_eq (tgt := 25) hx hb dX6_tellHole_9 (by decide) (fun c_9 => ?_) (fun c_9 => ?_)
  · have c_9 := zb_0 c_9
    rw [zin (lo := 0) (hi := 3) (by decide) (by decide)] at c_9
    refine lv_iload_n hx hb dX6_tellHole_25 rfl (lv_at hl 2 rfl) ?_
    refine lv_iconst (v := 4) hx hb dX6_tellHole_26 (by decide) ?_
    refine lv_icmp_ne (tgt := 38) hx hb dX6_tellHole_27 (by decide) (fun c_27 => ?_) (fun c_27 => ?_)
    · refine lv_bipush (v := (-102)) hx hb dX6_tellHole_38 (by decide) ?_
      exact W.iret (v := (-102)) hx hb hr (fun t ht hW => ⟨(-102), rfl, (by rw [tellH, if_neg c_9, if_neg c_27]), ht⟩) (fun q h => by cases h) dX6_tellHole_40
    · refine lv_aload_n hx hb dX6_tellHole_30 rfl (lv_at hl 0 rfl) ?_
      refine lv_iload_n hx hb dX6_tellHole_31 rfl (lv_at hl 1 rfl) ?_
      refine z_roVi (As := [.int (nI h)]) (rest := []) ⟨hx, hb, hml, hown, hts⟩ (c_X6_tenthsIn l D cI cZ cA mo apg P ea K Hn ym tm arw ans aro abo Sm asi sd asv kt ky ks akr akn aks ha rw ns h (by first | assumption | omega) (by first | assumption | omega) (by first | assumption | omega) (by first | assumption | omega)) (cwV 1 hts gX6_tellHole_X6_tenthsIn rfl rfl rfl (by decide +kernel) ⟨Nat.le_of_ble_eq_true rfl, Nat.le_of_ble_eq_true rfl⟩) hE hP [0, 1, 2] rfl 0 6 rfl rfl rfl hl.1 rfl (Nat.le_of_ble_eq_true rfl) dX6_tellHole_32 ⟨Nat.zero_le _, Nat.zero_le _⟩ ?_
      refine lv_goto (tgt := 40) hx hb dX6_tellHole_35 (by decide) ?_
      exact W.iret (v := (tIn rw ns h)) hx hb hr (fun t ht hW => ⟨(tIn rw ns h), rfl, (by rw [tellH, if_neg c_9, if_pos c_27]), ht⟩) (fun q h => by cases h) dX6_tellHole_40
  · have c_9 := zb_1 c_9
    rw [zin (lo := 0) (hi := 3) (by decide) (by decide)] at c_9
    obtain ⟨w, hw, ew⟩ := nI_of2 (n := 3) (M := 3) (by decide) (Int32.not_lt.mpr c_9.1) c_9.2
    refine lv_aload_n hx hb dX6_tellHole_12 rfl (lv_at hl 0 rfl) ?_
    refine va_get (D := D) (ci := 6) (v := .ref ans) (C := RX6) (T := TX6) (N := 22) hx hb hts hinX6 hown hE.1 hP 0 rfl rfl 8 (by decide) k_1 (fun _ h9 => h9) rfl dX6_tellHole_13 ?_
    refine lv_iconst (v := 4) hx hb dX6_tellHole_16 (by decide) ?_
    refine lv_iload_n hx hb dX6_tellHole_17 rfl (lv_at hl 1 rfl) ?_
    refine z_imulN hx hb (a := 4) (b := h) rfl rfl dX6_tellHole_18 ?_
    refine lv_iload_n hx hb dX6_tellHole_19 rfl (lv_at hl 2 rfl) ?_
    refine z_iaddN hx hb (a := 4 * h) (b := w) rfl ew dX6_tellHole_20 ?_
    refine z_iald hx hb hE hP 2 rfl (j := (4 * h) + w) rfl (by omega) (by decide) dX6_tellHole_21 ?_
    refine lv_goto (tgt := 40) hx hb dX6_tellHole_22 (by decide) ?_
    exact W.iret (v := ns ((4 * h) + w)) hx hb hr (fun t ht hW => ⟨(ns ((4 * h) + w)), rfl, (by rw [tellH, if_pos c_9, ew, nI_clamp (by omega)]), ht⟩) (fun q h => by cases h) dX6_tellHole_40

set_option maxHeartbeats 4000000 in
set_option maxRecDepth 100000 in
theorem c_X6_hole (l : Launch) (D : va_G) (cI cZ cA : ClassId) (mo : Nat) (apg : Nat) (P : Nat) (ea : Int32) (K : Nat) (Hn : Nat) (ym : Int32) (tm : Int32) (arw : Nat) (ans : Nat) (aro : Nat) (abo : Nat) (Sm : Nat) (asi : Nat) (sd : Int32) (asv : Nat) (kt : Int32) (ky : Int32) (ks : Nat) (akr : Nat) (akn : Nat) (aks : Nat) (ha : Int64) (rw : Nat → Int32) (ns : Nat → Int32) (h : Int32) (what : Int32) (hK : K ≤ 5) (hH : Hn ≤ 5) (ok : letOk ns K Hn) : Met l yX6_hole wsX6_hole (zr 5) (va_Pc [.ref mo, .int h, .int what] (zPr D cI cZ cA [(mo, .inr (6, [.ref apg, .int (nI P), .int ea, .int (nI K), .int (nI Hn), .int ym, .int tm, .ref arw, .ref ans, .ref aro, .ref abo, .int (nI Sm), .ref asi, .int sd, .ref asv, .int kt, .int ky, .int (nI ks), .ref akr, .ref akn, .ref aks, .long ha])), (arw, .inl (cI, 15, .inl rw)), (ans, .inl (cI, 20, .inl ns))])) (vp_Si (fun r => r = fHoleM rw ns Hn h what)) 0 0 (fun _ => False) := by
  refine Met.ofW (cc := cX6_hole) (maxL := 3) (ret := (some .int)) (by decide) rfl ?_
  intro p e s m args below meth c s₁ B hml hv
  obtain ⟨rfl, hP, hE⟩ := hv
  have hx := B.exec
  have hb := B.bytes
  have hr := B.returns
  have hts := atoms_spec (ws := wsX6_hole) B.pre
  have hown : s.vm.findClass RX6 = some m.cls := findClass_of_methodNamed B.named
  have hlocks := B.notSynchronized
  have hP : va_P D vwCl [(mo, .inr (6, [.ref apg, .int (nI P), .int ea, .int (nI K), .int (nI Hn), .int ym, .int tm, .ref arw, .ref ans, .ref aro, .ref abo, .int (nI Sm), .ref asi, .int sd, .ref asv, .int kt, .int ky, .int (nI ks), .ref akr, .ref akn, .ref aks, .long ha])), (arw, .inl (cI, 15, .inl rw)), (ans, .inl (cI, 20, .inl ns))] s.heap := hP
  have hl := lv_entry ([.ref mo, .int h, .int what]) (n := 3) (Nat.le_of_ble_eq_true rfl)
  rw [lg_entry_eq]
  generalize (lg_sl ([.ref mo, .int h, .int what]) ++ List.replicate (3 - (lg_sl ([.ref mo, .int h, .int what])).length) Slot.unset).toArray = ls at hl ⊢
  have hl : lv_has ls 3 [(0, .ref mo), (1, .int h), (2, .int what)] := hl
  refine lv_aload_n hx hb dX6_hole_0 rfl (lv_at hl 0 rfl) ?_
  refine lv_iload_n hx hb dX6_hole_1 rfl (lv_at hl 1 rfl) ?_
  refine z_roVi (As := [.int h]) (rest := []) ⟨hx, hb, hml, hown, hts⟩ (c_X6_isHole l D cI cZ cA mo apg P ea K Hn ym tm arw ans aro abo Sm asi sd asv kt ky ks akr akn aks ha h (by first | assumption | omega)) (cwV 1 hts gX6_hole_X6_isHole rfl rfl rfl (by decide +kernel) ⟨Nat.le_of_ble_eq_true rfl, Nat.le_of_ble_eq_true rfl⟩) hE hP [0] rfl 0 6 rfl rfl rfl hl.1 rfl (Nat.le_of_ble_eq_true rfl) dX6_hole_2 ⟨Nat.zero_le _, Nat.zero_le _⟩ ?_
  refine lv_if_eq (tgt := 17) hx hb dX6_hole_5 (by decide) (fun c_5 => ?_) (fun c_5 => ?_)
  · have c_5 := zb_0 c_5
    refine lv_bipush (v := (-101)) hx hb dX6_hole_17 (by decide) ?_
    exact W.iret (v := (-101)) hx hb hr (fun t ht hW => ⟨(-101), rfl, (by rw [fHoleM, if_neg c_5]), ht⟩) (fun q h => by cases h) dX6_hole_19
  · have c_5 := zb_1 c_5
    obtain ⟨j, hj, ej⟩ := z_ix c_5 (by omega)
    have tj : h.toNatClampNeg = j := by rw [ej, nI_clamp (by omega)]
    refine lv_aload_n hx hb dX6_hole_8 rfl (lv_at hl 0 rfl) ?_
    refine lv_iload_n hx hb dX6_hole_9 rfl (lv_at hl 1 rfl) ?_
    refine lv_iload_n hx hb dX6_hole_10 rfl (lv_at hl 2 rfl) ?_
    refine W.eq (g2 := F0 m 11 ls [.int what, .int (nI j), .ref mo]) (by rw [show (h : Int32) = nI j from ej]) ?_
    refine z_roVi (As := [.int (nI j), .int what]) (rest := []) ⟨hx, hb, hml, hown, hts⟩ (c_X6_tellHole l D cI cZ cA mo apg P ea K Hn ym tm arw ans aro abo Sm asi sd asv kt ky ks akr akn aks ha rw ns j what (by first | assumption | omega) (by first | assumption | omega) (by first | assumption | omega) (by first | assumption | omega)) (cwV 2 hts gX6_hole_X6_tellHole rfl rfl rfl (by decide +kernel) ⟨Nat.le_of_ble_eq_true rfl, Nat.le_of_ble_eq_true rfl⟩) hE hP [0, 1, 2] rfl 0 6 rfl rfl rfl hl.1 rfl (Nat.le_of_ble_eq_true rfl) dX6_hole_11 ⟨Nat.zero_le _, Nat.zero_le _⟩ ?_
    refine lv_goto (tgt := 19) hx hb dX6_hole_14 (by decide) ?_
    exact W.iret (v := (tellH rw ns j what)) hx hb hr (fun t ht hW => ⟨(tellH rw ns j what), rfl, (by rw [fHoleM, if_pos c_5, tj]), ht⟩) (fun q h => by cases h) dX6_hole_19

set_option maxHeartbeats 4000000 in
set_option maxRecDepth 100000 in
theorem c_X6_tellKeeper (l : Launch) (D : va_G) (cI cZ cA : ClassId) (mo : Nat) (apg : Nat) (P : Nat) (ea : Int32) (K : Nat) (Hn : Nat) (ym : Int32) (tm : Int32) (arw : Nat) (ans : Nat) (aro : Nat) (abo : Nat) (Sm : Nat) (asi : Nat) (sd : Int32) (asv : Nat) (kt : Int32) (ky : Int32) (ks : Nat) (akr : Nat) (akn : Nat) (aks : Nat) (ha : Int64) (rw : Nat → Int32) (ns : Nat → Int32) (si : Nat → Int32) (k : Nat) (what : Int32) (hk : k < 5) (hH : Hn ≤ 5) (hS8 : Sm ≤ 8) : Met l yX6_tellKeeper wsX6_tellKeeper (zr 4) (va_Pc [.ref mo, .int (nI k), .int what] (zPr D cI cZ cA [(mo, .inr (6, [.ref apg, .int (nI P), .int ea, .int (nI K), .int (nI Hn), .int ym, .int tm, .ref arw, .ref ans, .ref aro, .ref abo, .int (nI Sm), .ref asi, .int sd, .ref asv, .int kt, .int ky, .int (nI ks), .ref akr, .ref akn, .ref aks, .long ha])), (arw, .inl (cI, 15, .inl rw)), (ans, .inl (cI, 20, .inl ns)), (asi, .inl (cI, 24, .inl si))])) (vp_Si (fun r => r = tellK rw ns si Hn Sm k what)) 0 0 (fun _ => False) := by
  refine Met.ofW (cc := cX6_tellKeeper) (maxL := 3) (ret := (some .int)) (by decide) rfl ?_
  intro p e s m args below meth c s₁ B hml hv
  obtain ⟨rfl, hP, hE⟩ := hv
  have hx := B.exec
  have hb := B.bytes
  have hr := B.returns
  have hts := atoms_spec (ws := wsX6_tellKeeper) B.pre
  have hown : s.vm.findClass RX6 = some m.cls := findClass_of_methodNamed B.named
  have hlocks := B.notSynchronized
  have hP : va_P D vwCl [(mo, .inr (6, [.ref apg, .int (nI P), .int ea, .int (nI K), .int (nI Hn), .int ym, .int tm, .ref arw, .ref ans, .ref aro, .ref abo, .int (nI Sm), .ref asi, .int sd, .ref asv, .int kt, .int ky, .int (nI ks), .ref akr, .ref akn, .ref aks, .long ha])), (arw, .inl (cI, 15, .inl rw)), (ans, .inl (cI, 20, .inl ns)), (asi, .inl (cI, 24, .inl si))] s.heap := hP
  have hl := lv_entry ([.ref mo, .int (nI k), .int what]) (n := 3) (Nat.le_of_ble_eq_true rfl)
  rw [lg_entry_eq]
  generalize (lg_sl ([.ref mo, .int (nI k), .int what]) ++ List.replicate (3 - (lg_sl ([.ref mo, .int (nI k), .int what])).length) Slot.unset).toArray = ls at hl ⊢
  have hl : lv_has ls 3 [(0, .ref mo), (1, .int (nI k)), (2, .int what)] := hl
  have hinX6 : ∀ w ∈ wsX60, w ∈ wsX6_tellKeeper := fun w h => List.mem_cons_of_mem _ (List.mem_append_right _ h)
  have k_0 := hts (.fieldLink RX6 13 "VowDovesModel" "rows" "[I") (by decide +kernel)
  refine lv_iload_n hx hb dX6_tellKeeper_0 rfl (lv_at hl 2 rfl) ?_
  by_cases c_1_0 : what = 0
  · refine lv_tableIn (tgt := 44) hx hb dX6_tellKeeper_1 (by rw [c_1_0]; decide) (by rw [c_1_0]; decide) (by rw [c_1_0]; rfl) (by decide) ?_
    refine lv_aload_n hx hb dX6_tellKeeper_44 rfl (lv_at hl 0 rfl) ?_
    refine va_get (D := D) (ci := 6) (v := .ref arw) (C := RX6) (T := TX6) (N := 22) hx hb hts hinX6 hown hE.1 hP 0 rfl rfl 7 (by decide) k_0 (fun _ h9 => h9) rfl dX6_tellKeeper_45 ?_
    refine lv_iconst (v := 3) hx hb dX6_tellKeeper_48 (by decide) ?_
    refine lv_iload_n hx hb dX6_tellKeeper_49 rfl (lv_at hl 1 rfl) ?_
    refine z_imulN hx hb (a := 3) (b := k) rfl rfl dX6_tellKeeper_50 ?_
    refine lv_iload_n hx hb dX6_tellKeeper_51 rfl (lv_at hl 2 rfl) ?_
    refine z_iaddN hx hb (a := 3 * k) (b := 0) rfl c_1_0 dX6_tellKeeper_52 ?_
    refine z_iald hx hb hE hP 1 rfl (j := (3 * k) + 0) rfl (by omega) (by decide) dX6_tellKeeper_53 ?_
    exact W.iret (v := rw ((3 * k) + 0)) hx hb hr (fun t ht hW => ⟨(rw ((3 * k) + 0)), rfl, (by rw [tellK]; simp [c_1_0]), ht⟩) (fun q h => by cases h) dX6_tellKeeper_54
  by_cases c_1_1 : what = 1
  · refine lv_tableIn (tgt := 44) hx hb dX6_tellKeeper_1 (by rw [c_1_1]; decide) (by rw [c_1_1]; decide) (by rw [c_1_1]; rfl) (by decide) ?_
    refine lv_aload_n hx hb dX6_tellKeeper_44 rfl (lv_at hl 0 rfl) ?_
    refine va_get (D := D) (ci := 6) (v := .ref arw) (C := RX6) (T := TX6) (N := 22) hx hb hts hinX6 hown hE.1 hP 0 rfl rfl 7 (by decide) k_0 (fun _ h9 => h9) rfl dX6_tellKeeper_45 ?_
    refine lv_iconst (v := 3) hx hb dX6_tellKeeper_48 (by decide) ?_
    refine lv_iload_n hx hb dX6_tellKeeper_49 rfl (lv_at hl 1 rfl) ?_
    refine z_imulN hx hb (a := 3) (b := k) rfl rfl dX6_tellKeeper_50 ?_
    refine lv_iload_n hx hb dX6_tellKeeper_51 rfl (lv_at hl 2 rfl) ?_
    refine z_iaddN hx hb (a := 3 * k) (b := 1) rfl c_1_1 dX6_tellKeeper_52 ?_
    refine z_iald hx hb hE hP 1 rfl (j := (3 * k) + 1) rfl (by omega) (by decide) dX6_tellKeeper_53 ?_
    exact W.iret (v := rw ((3 * k) + 1)) hx hb hr (fun t ht hW => ⟨(rw ((3 * k) + 1)), rfl, (by rw [tellK]; simp [c_1_0, c_1_1]), ht⟩) (fun q h => by cases h) dX6_tellKeeper_54
  by_cases c_1_2 : what = 2
  · refine lv_tableIn (tgt := 55) hx hb dX6_tellKeeper_1 (by rw [c_1_2]; decide) (by rw [c_1_2]; decide) (by rw [c_1_2]; rfl) (by decide) ?_
    refine lv_aload_n hx hb dX6_tellKeeper_55 rfl (lv_at hl 0 rfl) ?_
    refine lv_iload_n hx hb dX6_tellKeeper_56 rfl (lv_at hl 1 rfl) ?_
    refine z_roVi (As := [.int (nI k)]) (rest := []) ⟨hx, hb, hml, hown, hts⟩ (c_X6_setOf l D cI cZ cA mo apg P ea K Hn ym tm arw ans aro abo Sm asi sd asv kt ky ks akr akn aks ha ns (nI k) (by first | assumption | omega)) (cwV 1 hts gX6_tellKeeper_X6_setOf rfl rfl rfl (by decide +kernel) ⟨Nat.le_of_ble_eq_true rfl, Nat.le_of_ble_eq_true rfl⟩) hE hP [0, 2] rfl 0 6 rfl rfl rfl hl.1 rfl (Nat.le_of_ble_eq_true rfl) dX6_tellKeeper_57 ⟨Nat.zero_le _, Nat.zero_le _⟩ ?_
    exact W.iret (v := (sOfN ns (nI k) Hn)) hx hb hr (fun t ht hW => ⟨(sOfN ns (nI k) Hn), rfl, (by rw [tellK]; simp [c_1_0, c_1_1, c_1_2]), ht⟩) (fun q h => by cases h) dX6_tellKeeper_60
  by_cases c_1_3 : what = 3
  · refine lv_tableIn (tgt := 61) hx hb dX6_tellKeeper_1 (by rw [c_1_3]; decide) (by rw [c_1_3]; decide) (by rw [c_1_3]; rfl) (by decide) ?_
    refine lv_aload_n hx hb dX6_tellKeeper_61 rfl (lv_at hl 0 rfl) ?_
    refine lv_aload_n hx hb dX6_tellKeeper_62 rfl (lv_at hl 0 rfl) ?_
    refine lv_iload_n hx hb dX6_tellKeeper_63 rfl (lv_at hl 1 rfl) ?_
    refine z_roVi (As := [.int (nI k)]) (rest := [.ref mo]) ⟨hx, hb, hml, hown, hts⟩ (c_X6_setOf l D cI cZ cA mo apg P ea K Hn ym tm arw ans aro abo Sm asi sd asv kt ky ks akr akn aks ha ns (nI k) (by first | assumption | omega)) (cwV 1 hts gX6_tellKeeper_X6_setOf rfl rfl rfl (by decide +kernel) ⟨Nat.le_of_ble_eq_true rfl, Nat.le_of_ble_eq_true rfl⟩) hE hP [0, 2] rfl 0 6 rfl rfl rfl hl.1 rfl (Nat.le_of_ble_eq_true rfl) dX6_tellKeeper_64 ⟨Nat.zero_le _, Nat.zero_le _⟩ ?_
    refine z_roVi (As := [.int (sOfN ns (nI k) Hn)]) (rest := []) ⟨hx, hb, hml, hown, hts⟩ (c_X6_eggsIn l D cI cZ cA mo apg P ea K Hn ym tm arw ans aro abo Sm asi sd asv kt ky ks akr akn aks ha ns (sOfN ns (nI k) Hn) (by first | assumption | omega)) (cwV 1 hts gX6_tellKeeper_X6_eggsIn rfl rfl rfl (by decide +kernel) ⟨Nat.le_of_ble_eq_true rfl, Nat.le_of_ble_eq_true rfl⟩) hE hP [0, 2] rfl 0 6 rfl rfl rfl hl.1 rfl (Nat.le_of_ble_eq_true rfl) dX6_tellKeeper_67 ⟨Nat.zero_le _, Nat.zero_le _⟩ ?_
    exact W.iret (v := (eInN ns (sOfN ns (nI k) Hn) Hn)) hx hb hr (fun t ht hW => ⟨(eInN ns (sOfN ns (nI k) Hn) Hn), rfl, (by rw [tellK]; simp [c_1_0, c_1_1, c_1_2, c_1_3]), ht⟩) (fun q h => by cases h) dX6_tellKeeper_70
  by_cases c_1_4 : what = 4
  · refine lv_tableIn (tgt := 71) hx hb dX6_tellKeeper_1 (by rw [c_1_4]; decide) (by rw [c_1_4]; decide) (by rw [c_1_4]; rfl) (by decide) ?_
    refine lv_aload_n hx hb dX6_tellKeeper_71 rfl (lv_at hl 0 rfl) ?_
    refine va_get (D := D) (ci := 6) (v := .ref arw) (C := RX6) (T := TX6) (N := 22) hx hb hts hinX6 hown hE.1 hP 0 rfl rfl 7 (by decide) k_0 (fun _ h9 => h9) rfl dX6_tellKeeper_72 ?_
    refine lv_iconst (v := 3) hx hb dX6_tellKeeper_75 (by decide) ?_
    refine lv_iload_n hx hb dX6_tellKeeper_76 rfl (lv_at hl 1 rfl) ?_
    refine z_imulN hx hb (a := 3) (b := k) rfl rfl dX6_tellKeeper_77 ?_
    refine lv_iconst (v := 2) hx hb dX6_tellKeeper_78 (by decide) ?_
    refine z_iaddN hx hb (a := 3 * k) (b := 2) rfl rfl dX6_tellKeeper_79 ?_
    refine z_iald hx hb hE hP 1 rfl (j := (3 * k) + 2) rfl (by omega) (by decide) dX6_tellKeeper_80 ?_
    exact W.iret (v := rw ((3 * k) + 2)) hx hb hr (fun t ht hW => ⟨(rw ((3 * k) + 2)), rfl, (by rw [tellK]; simp [c_1_0, c_1_1, c_1_2, c_1_3, c_1_4]), ht⟩) (fun q h => by cases h) dX6_tellKeeper_81
  by_cases c_1_5 : what = 5
  · refine lv_tableIn (tgt := 82) hx hb dX6_tellKeeper_1 (by rw [c_1_5]; decide) (by rw [c_1_5]; decide) (by rw [c_1_5]; rfl) (by decide) ?_
    refine lv_aload_n hx hb dX6_tellKeeper_82 rfl (lv_at hl 0 rfl) ?_
    refine lv_iload_n hx hb dX6_tellKeeper_83 rfl (lv_at hl 1 rfl) ?_
    refine z_roVi (As := [.int (nI k)]) (rest := []) ⟨hx, hb, hml, hown, hts⟩ (c_X6_faithsOf l D cI cZ cA mo apg P ea K Hn ym tm arw ans aro abo Sm asi sd asv kt ky ks akr akn aks ha rw si k (by first | assumption | omega) (by first | assumption | omega)) (cwV 1 hts gX6_tellKeeper_X6_faithsOf rfl rfl rfl (by decide +kernel) ⟨Nat.le_of_ble_eq_true rfl, Nat.le_of_ble_eq_true rfl⟩) hE hP [0, 1, 3] rfl 0 6 rfl rfl rfl hl.1 rfl (Nat.le_of_ble_eq_true rfl) dX6_tellKeeper_84 ⟨Nat.zero_le _, Nat.zero_le _⟩ ?_
    exact W.iret (v := (faiN (fun v => wayN rw si k (nI v) Sm) 10)) hx hb hr (fun t ht hW => ⟨(faiN (fun v => wayN rw si k (nI v) Sm) 10), rfl, (by rw [tellK]; simp [c_1_0, c_1_1, c_1_2, c_1_3, c_1_4, c_1_5]), ht⟩) (fun q h => by cases h) dX6_tellKeeper_87
  by_cases c_1_6 : what = 6
  · refine lv_tableIn (tgt := 88) hx hb dX6_tellKeeper_1 (by rw [c_1_6]; decide) (by rw [c_1_6]; decide) (by rw [c_1_6]; rfl) (by decide) ?_
    refine lv_aload_n hx hb dX6_tellKeeper_88 rfl (lv_at hl 0 rfl) ?_
    refine lv_iload_n hx hb dX6_tellKeeper_89 rfl (lv_at hl 1 rfl) ?_
    refine z_roVi (As := [.int (nI k)]) (rest := []) ⟨hx, hb, hml, hown, hts⟩ (c_X6_likelyOf l D cI cZ cA mo apg P ea K Hn ym tm arw ans aro abo Sm asi sd asv kt ky ks akr akn aks ha rw si k (by first | assumption | omega) (by first | assumption | omega)) (cwV 1 hts gX6_tellKeeper_X6_likelyOf rfl rfl rfl (by decide +kernel) ⟨Nat.le_of_ble_eq_true rfl, Nat.le_of_ble_eq_true rfl⟩) hE hP [0, 1, 3] rfl 0 6 rfl rfl rfl hl.1 rfl (Nat.le_of_ble_eq_true rfl) dX6_tellKeeper_90 ⟨Nat.zero_le _, Nat.zero_le _⟩ ?_
    exact W.iret (v := (likN (fun v => wayN rw si k (nI v) Sm) 10)) hx hb hr (fun t ht hW => ⟨(likN (fun v => wayN rw si k (nI v) Sm) 10), rfl, (by rw [tellK]; simp [c_1_0, c_1_1, c_1_2, c_1_3, c_1_4, c_1_5, c_1_6]), ht⟩) (fun q h => by cases h) dX6_tellKeeper_93
  refine lv_tableOut (tgt := 94) hx hb dX6_tellKeeper_1 (zsw (n := 6) (fun j hj => match j, hj with | 0, _ => c_1_0 | 1, _ => c_1_1 | 2, _ => c_1_2 | 3, _ => c_1_3 | 4, _ => c_1_4 | 5, _ => c_1_5 | 6, _ => c_1_6 | k + 7, h => absurd h (by omega)) (by decide)) (by decide) ?_
  refine lv_bipush (v := (-102)) hx hb dX6_tellKeeper_94 (by decide) ?_
  exact W.iret (v := (-102)) hx hb hr (fun t ht hW => ⟨(-102), rfl, (by rw [tellK]; simp [c_1_0, c_1_1, c_1_2, c_1_3, c_1_4, c_1_5, c_1_6]), ht⟩) (fun q h => by cases h) dX6_tellKeeper_96

set_option maxHeartbeats 4000000 in
set_option maxRecDepth 100000 in
theorem c_X6_keeper (l : Launch) (D : va_G) (cI cZ cA : ClassId) (mo : Nat) (apg : Nat) (P : Nat) (ea : Int32) (K : Nat) (Hn : Nat) (ym : Int32) (tm : Int32) (arw : Nat) (ans : Nat) (aro : Nat) (abo : Nat) (Sm : Nat) (asi : Nat) (sd : Int32) (asv : Nat) (kt : Int32) (ky : Int32) (ks : Nat) (akr : Nat) (akn : Nat) (aks : Nat) (ha : Int64) (rw : Nat → Int32) (ns : Nat → Int32) (si : Nat → Int32) (k : Int32) (what : Int32) (hK : K ≤ 5) (hH : Hn ≤ 5) (hS8 : Sm ≤ 8) : Met l yX6_keeper wsX6_keeper (zr 5) (va_Pc [.ref mo, .int k, .int what] (zPr D cI cZ cA [(mo, .inr (6, [.ref apg, .int (nI P), .int ea, .int (nI K), .int (nI Hn), .int ym, .int tm, .ref arw, .ref ans, .ref aro, .ref abo, .int (nI Sm), .ref asi, .int sd, .ref asv, .int kt, .int ky, .int (nI ks), .ref akr, .ref akn, .ref aks, .long ha])), (arw, .inl (cI, 15, .inl rw)), (ans, .inl (cI, 20, .inl ns)), (asi, .inl (cI, 24, .inl si))])) (vp_Si (fun r => r = fKeeperM rw ns si K Hn Sm k what)) 0 0 (fun _ => False) := by
  refine Met.ofW (cc := cX6_keeper) (maxL := 3) (ret := (some .int)) (by decide) rfl ?_
  intro p e s m args below meth c s₁ B hml hv
  obtain ⟨rfl, hP, hE⟩ := hv
  have hx := B.exec
  have hb := B.bytes
  have hr := B.returns
  have hts := atoms_spec (ws := wsX6_keeper) B.pre
  have hown : s.vm.findClass RX6 = some m.cls := findClass_of_methodNamed B.named
  have hlocks := B.notSynchronized
  have hP : va_P D vwCl [(mo, .inr (6, [.ref apg, .int (nI P), .int ea, .int (nI K), .int (nI Hn), .int ym, .int tm, .ref arw, .ref ans, .ref aro, .ref abo, .int (nI Sm), .ref asi, .int sd, .ref asv, .int kt, .int ky, .int (nI ks), .ref akr, .ref akn, .ref aks, .long ha])), (arw, .inl (cI, 15, .inl rw)), (ans, .inl (cI, 20, .inl ns)), (asi, .inl (cI, 24, .inl si))] s.heap := hP
  have hl := lv_entry ([.ref mo, .int k, .int what]) (n := 3) (Nat.le_of_ble_eq_true rfl)
  rw [lg_entry_eq]
  generalize (lg_sl ([.ref mo, .int k, .int what]) ++ List.replicate (3 - (lg_sl ([.ref mo, .int k, .int what])).length) Slot.unset).toArray = ls at hl ⊢
  have hl : lv_has ls 3 [(0, .ref mo), (1, .int k), (2, .int what)] := hl
  refine lv_aload_n hx hb dX6_keeper_0 rfl (lv_at hl 0 rfl) ?_
  refine lv_iload_n hx hb dX6_keeper_1 rfl (lv_at hl 1 rfl) ?_
  refine z_roVi (As := [.int k]) (rest := []) ⟨hx, hb, hml, hown, hts⟩ (c_X6_isKeeper l D cI cZ cA mo apg P ea K Hn ym tm arw ans aro abo Sm asi sd asv kt ky ks akr akn aks ha k (by first | assumption | omega)) (cwV 1 hts gX6_keeper_X6_isKeeper rfl rfl rfl (by decide +kernel) ⟨Nat.le_of_ble_eq_true rfl, Nat.le_of_ble_eq_true rfl⟩) hE hP [0] rfl 0 6 rfl rfl rfl hl.1 rfl (Nat.le_of_ble_eq_true rfl) dX6_keeper_2 ⟨Nat.zero_le _, Nat.zero_le _⟩ ?_
  refine lv_if_eq (tgt := 17) hx hb dX6_keeper_5 (by decide) (fun c_5 => ?_) (fun c_5 => ?_)
  · have c_5 := zb_0 c_5
    refine lv_bipush (v := (-101)) hx hb dX6_keeper_17 (by decide) ?_
    exact W.iret (v := (-101)) hx hb hr (fun t ht hW => ⟨(-101), rfl, (by rw [fKeeperM, if_neg c_5]), ht⟩) (fun q h => by cases h) dX6_keeper_19
  · have c_5 := zb_1 c_5
    obtain ⟨j, hj, ej⟩ := z_ix c_5 (by omega)
    have tj : k.toNatClampNeg = j := by rw [ej, nI_clamp (by omega)]
    refine lv_aload_n hx hb dX6_keeper_8 rfl (lv_at hl 0 rfl) ?_
    refine lv_iload_n hx hb dX6_keeper_9 rfl (lv_at hl 1 rfl) ?_
    refine lv_iload_n hx hb dX6_keeper_10 rfl (lv_at hl 2 rfl) ?_
    refine W.eq (g2 := F0 m 11 ls [.int what, .int (nI j), .ref mo]) (by rw [show (k : Int32) = nI j from ej]) ?_
    refine z_roVi (As := [.int (nI j), .int what]) (rest := []) ⟨hx, hb, hml, hown, hts⟩ (c_X6_tellKeeper l D cI cZ cA mo apg P ea K Hn ym tm arw ans aro abo Sm asi sd asv kt ky ks akr akn aks ha rw ns si j what (by first | assumption | omega) (by first | assumption | omega) (by first | assumption | omega)) (cwV 2 hts gX6_keeper_X6_tellKeeper rfl rfl rfl (by decide +kernel) ⟨Nat.le_of_ble_eq_true rfl, Nat.le_of_ble_eq_true rfl⟩) hE hP [0, 1, 2, 3] rfl 0 6 rfl rfl rfl hl.1 rfl (Nat.le_of_ble_eq_true rfl) dX6_keeper_11 ⟨Nat.zero_le _, Nat.zero_le _⟩ ?_
    refine lv_goto (tgt := 19) hx hb dX6_keeper_14 (by decide) ?_
    exact W.iret (v := (tellK rw ns si Hn Sm j what)) hx hb hr (fun t ht hW => ⟨(tellK rw ns si Hn Sm j what), rfl, (by rw [fKeeperM, if_pos c_5, tj]), ht⟩) (fun q h => by cases h) dX6_keeper_19

set_option maxHeartbeats 4000000 in
set_option maxRecDepth 100000 in
theorem c_X6_as (l : Launch) (D : va_G) (cI cZ cA : ClassId) (mo : Nat) (apg : Nat) (P : Nat) (ea : Int32) (K : Nat) (Hn : Nat) (ym : Int32) (tm : Int32) (arw : Nat) (ans : Nat) (aro : Nat) (abo : Nat) (Sm : Nat) (asi : Nat) (sd : Int32) (asv : Nat) (kt : Int32) (ky : Int32) (ks : Nat) (akr : Nat) (akn : Nat) (aks : Nat) (ha : Int64) (rw : Nat → Int32) (k : Int32) (kind : Int32) (hK : K ≤ 5) : Met l yX6_as wsX6_as (zr 3) (va_Pc [.ref mo, .int k, .int kind] (zPr D cI cZ cA [(mo, .inr (6, [.ref apg, .int (nI P), .int ea, .int (nI K), .int (nI Hn), .int ym, .int tm, .ref arw, .ref ans, .ref aro, .ref abo, .int (nI Sm), .ref asi, .int sd, .ref asv, .int kt, .int ky, .int (nI ks), .ref akr, .ref akn, .ref aks, .long ha])), (arw, .inl (cI, 15, .inl rw))])) (vp_Si (fun r => r = fAsM rw K k kind)) 0 0 (fun _ => False) := by
  refine Met.ofW (cc := cX6_as) (maxL := 5) (ret := (some .int)) (by decide) rfl ?_
  intro p e s m args below meth c s₁ B hml hv
  obtain ⟨rfl, hP, hE⟩ := hv
  have hx := B.exec
  have hb := B.bytes
  have hr := B.returns
  have hts := atoms_spec (ws := wsX6_as) B.pre
  have hown : s.vm.findClass RX6 = some m.cls := findClass_of_methodNamed B.named
  have hlocks := B.notSynchronized
  have hP : va_P D vwCl [(mo, .inr (6, [.ref apg, .int (nI P), .int ea, .int (nI K), .int (nI Hn), .int ym, .int tm, .ref arw, .ref ans, .ref aro, .ref abo, .int (nI Sm), .ref asi, .int sd, .ref asv, .int kt, .int ky, .int (nI ks), .ref akr, .ref akn, .ref aks, .long ha])), (arw, .inl (cI, 15, .inl rw))] s.heap := hP
  have hl := lv_entry ([.ref mo, .int k, .int kind]) (n := 5) (Nat.le_of_ble_eq_true rfl)
  rw [lg_entry_eq]
  generalize (lg_sl ([.ref mo, .int k, .int kind]) ++ List.replicate (5 - (lg_sl ([.ref mo, .int k, .int kind])).length) Slot.unset).toArray = ls at hl ⊢
  have hl : lv_has ls 5 [(0, .ref mo), (1, .int k), (2, .int kind)] := hl
  have hinX6 : ∀ w ∈ wsX60, w ∈ wsX6_as := fun w h => List.mem_cons_of_mem _ (List.mem_append_right _ h)
  have k_0 := hts (.constantLong RX6 114 (4)) (by decide +kernel)
  have k_1 := hts (.fieldLink RX6 13 "VowDovesModel" "rows" "[I") (by decide +kernel)
  refine lv_aload_n hx hb dX6_as_0 rfl (lv_at hl 0 rfl) ?_
  refine lv_iload_n hx hb dX6_as_1 rfl (lv_at hl 1 rfl) ?_
  refine z_roVi (As := [.int k]) (rest := []) ⟨hx, hb, hml, hown, hts⟩ (c_X6_isKeeper l D cI cZ cA mo apg P ea K Hn ym tm arw ans aro abo Sm asi sd asv kt ky ks akr akn aks ha k (by first | assumption | omega)) (cwV 1 hts gX6_as_X6_isKeeper rfl rfl rfl (by decide +kernel) ⟨Nat.le_of_ble_eq_true rfl, Nat.le_of_ble_eq_true rfl⟩) hE hP [0] rfl 0 6 rfl rfl rfl hl.1 rfl (Nat.le_of_ble_eq_true rfl) dX6_as_2 ⟨Nat.zero_le _, Nat.zero_le _⟩ ?_
  refine lv_if_ne (tgt := 11) hx hb dX6_as_5 (by decide) (fun c_5 => ?_) (fun c_5 => ?_)
  · have c_5 := zb_1 c_5
    obtain ⟨j, hj, ej⟩ := z_ix c_5 (by omega)
    have tj : k.toNatClampNeg = j := by rw [ej, nI_clamp (by omega)]
    refine lv_iload_n hx hb dX6_as_11 rfl (lv_at hl 2 rfl) ?_
    refine lv_i2l (v := (kind : Int32).toInt64) hx hb dX6_as_12 rfl ?_
    refine lv_lconst (v := 0) hx hb dX6_as_13 (by decide) ?_
    refine lv_ldc2 (v := 4) hx hb hown k_0 dX6_as_14 ?_
    refine z_roSi (As := [.long ((kind : Int32).toInt64), .long 0, .long 4]) (rest := []) ⟨hx, hb, hml, hown, hts⟩ (c_X6_in l D cI cZ cA ((kind : Int32).toInt64) 0 4 ) (va_cwS 3 hts gX6_as_X6_in rfl rfl rfl (by decide +kernel) ⟨Nat.le_of_ble_eq_true rfl, Nat.le_of_ble_eq_true rfl⟩) hE hP [] rfl rfl hl.1 rfl (Nat.le_of_ble_eq_true rfl) dX6_as_17 ⟨Nat.zero_le _, Nat.zero_le _⟩ ?_
    refine lv_if_ne (tgt := 26) hx hb dX6_as_20 (by decide) (fun c_20 => ?_) (fun c_20 => ?_)
    · have c_20 := zb_1 c_20
      rw [zin (lo := 0) (hi := 4) (by decide) (by decide)] at c_20
      refine lv_aload_n hx hb dX6_as_26 rfl (lv_at hl 0 rfl) ?_
      refine va_get (D := D) (ci := 6) (v := .ref arw) (C := RX6) (T := TX6) (N := 22) hx hb hts hinX6 hown hE.1 hP 0 rfl rfl 7 (by decide) k_1 (fun _ h9 => h9) rfl dX6_as_27 ?_
      refine lv_iconst (v := 3) hx hb dX6_as_30 (by decide) ?_
      refine lv_iload_n hx hb dX6_as_31 rfl (lv_at hl 1 rfl) ?_
      refine z_imulN hx hb (a := 3) (b := j) rfl ej dX6_as_32 ?_
      refine z_iald hx hb hE hP 1 rfl (j := 3 * j) rfl (by omega) (by decide) dX6_as_33 ?_
      refine lv_istore_n (lv' := [(3, .int (rw (3 * j))), (0, .ref mo), (1, .int k), (2, .int kind)]) hx hb dX6_as_34 rfl hl (by decide) rfl (fun ls hl => ?_)
      refine lv_iload_n hx hb dX6_as_35 rfl (lv_at hl 3 rfl) ?_
      refine lv_if_eq (tgt := 54) hx hb dX6_as_36 (by decide) (fun c_36 => ?_) (fun c_36 => ?_)
      · refine lv_iconst (v := 1) hx hb dX6_as_54 (by decide) ?_
        refine lv_goto (tgt := 59) hx hb dX6_as_55 (by decide) ?_
        refine lv_istore (lv' := [(4, .int 1), (3, .int (rw (3 * j))), (0, .ref mo), (1, .int k), (2, .int kind)]) hx hb dX6_as_59 hl (by decide) rfl (fun ls hl => ?_)
        refine lv_iload hx hb dX6_as_61 (lv_at hl 0 rfl) ?_
        refine lv_if_eq (tgt := 70) hx hb dX6_as_63 (by decide) (fun c_63 => ?_) (fun c_63 => ?_)
        · exact absurd c_63 (by decide)
        · refine lv_iload_n hx hb dX6_as_66 rfl (lv_at hl 3 rfl) ?_
          refine lv_goto (tgt := 71) hx hb dX6_as_67 (by decide) ?_
          exact W.iret (v := k) hx hb hr (fun t ht hW => ⟨k, rfl, (by unfold fAsM; grind), ht⟩) (fun q h => by cases h) dX6_as_71
      · refine lv_iload_n hx hb dX6_as_39 rfl (lv_at hl 3 rfl) ?_
        refine lv_iload_n hx hb dX6_as_40 rfl (lv_at hl 0 rfl) ?_
        refine lv_icmp_eq (tgt := 54) hx hb dX6_as_41 (by decide) (fun c_41 => ?_) (fun c_41 => ?_)
        · refine lv_iconst (v := 1) hx hb dX6_as_54 (by decide) ?_
          refine lv_goto (tgt := 59) hx hb dX6_as_55 (by decide) ?_
          refine lv_istore (lv' := [(4, .int 1), (3, .int (rw (3 * j))), (0, .ref mo), (1, .int k), (2, .int kind)]) hx hb dX6_as_59 hl (by decide) rfl (fun ls hl => ?_)
          refine lv_iload hx hb dX6_as_61 (lv_at hl 0 rfl) ?_
          refine lv_if_eq (tgt := 70) hx hb dX6_as_63 (by decide) (fun c_63 => ?_) (fun c_63 => ?_)
          · exact absurd c_63 (by decide)
          · refine lv_iload_n hx hb dX6_as_66 rfl (lv_at hl 3 rfl) ?_
            refine lv_goto (tgt := 71) hx hb dX6_as_67 (by decide) ?_
            exact W.iret (v := k) hx hb hr (fun t ht hW => ⟨k, rfl, (by unfold fAsM; grind), ht⟩) (fun q h => by cases h) dX6_as_71
        · refine lv_iload_n hx hb dX6_as_44 rfl (lv_at hl 3 rfl) ?_
          refine lv_iconst (v := 1) hx hb dX6_as_45 (by decide) ?_
          refine lv_icmp_ne (tgt := 58) hx hb dX6_as_46 (by decide) (fun c_46 => ?_) (fun c_46 => ?_)
          · refine lv_iconst (v := 0) hx hb dX6_as_58 (by decide) ?_
            refine lv_istore (lv' := [(4, .int 0), (3, .int (rw (3 * j))), (0, .ref mo), (1, .int k), (2, .int kind)]) hx hb dX6_as_59 hl (by decide) rfl (fun ls hl => ?_)
            refine lv_iload hx hb dX6_as_61 (lv_at hl 0 rfl) ?_
            refine lv_if_eq (tgt := 70) hx hb dX6_as_63 (by decide) (fun c_63 => ?_) (fun c_63 => ?_)
            · refine lv_iconst (v := (-1)) hx hb dX6_as_70 (by decide) ?_
              exact W.iret (v := (-1)) hx hb hr (fun t ht hW => ⟨(-1), rfl, (by unfold fAsM; grind), ht⟩) (fun q h => by cases h) dX6_as_71
            · exact absurd c_63 (by decide)
          · refine lv_iload_n hx hb dX6_as_49 rfl (lv_at hl 0 rfl) ?_
            refine lv_iconst (v := 4) hx hb dX6_as_50 (by decide) ?_
            refine lv_icmp_ne (tgt := 58) hx hb dX6_as_51 (by decide) (fun c_51 => ?_) (fun c_51 => ?_)
            · refine lv_iconst (v := 0) hx hb dX6_as_58 (by decide) ?_
              refine lv_istore (lv' := [(4, .int 0), (3, .int (rw (3 * j))), (0, .ref mo), (1, .int k), (2, .int kind)]) hx hb dX6_as_59 hl (by decide) rfl (fun ls hl => ?_)
              refine lv_iload hx hb dX6_as_61 (lv_at hl 0 rfl) ?_
              refine lv_if_eq (tgt := 70) hx hb dX6_as_63 (by decide) (fun c_63 => ?_) (fun c_63 => ?_)
              · refine lv_iconst (v := (-1)) hx hb dX6_as_70 (by decide) ?_
                exact W.iret (v := (-1)) hx hb hr (fun t ht hW => ⟨(-1), rfl, (by unfold fAsM; grind), ht⟩) (fun q h => by cases h) dX6_as_71
              · exact absurd c_63 (by decide)
            · refine lv_iconst (v := 1) hx hb dX6_as_54 (by decide) ?_
              refine lv_goto (tgt := 59) hx hb dX6_as_55 (by decide) ?_
              refine lv_istore (lv' := [(4, .int 1), (3, .int (rw (3 * j))), (0, .ref mo), (1, .int k), (2, .int kind)]) hx hb dX6_as_59 hl (by decide) rfl (fun ls hl => ?_)
              refine lv_iload hx hb dX6_as_61 (lv_at hl 0 rfl) ?_
              refine lv_if_eq (tgt := 70) hx hb dX6_as_63 (by decide) (fun c_63 => ?_) (fun c_63 => ?_)
              · exact absurd c_63 (by decide)
              · refine lv_iload_n hx hb dX6_as_66 rfl (lv_at hl 3 rfl) ?_
                refine lv_goto (tgt := 71) hx hb dX6_as_67 (by decide) ?_
                exact W.iret (v := k) hx hb hr (fun t ht hW => ⟨k, rfl, (by unfold fAsM; grind), ht⟩) (fun q h => by cases h) dX6_as_71
    · have c_20 := zb_0 c_20
      rw [zin (lo := 0) (hi := 4) (by decide) (by decide)] at c_20
      refine lv_bipush (v := (-102)) hx hb dX6_as_23 (by decide) ?_
      exact W.iret (v := (-102)) hx hb hr (fun t ht hW => ⟨(-102), rfl, (by unfold fAsM; grind), ht⟩) (fun q h => by cases h) dX6_as_25
  · have c_5 := zb_0 c_5
    refine lv_bipush (v := (-101)) hx hb dX6_as_8 (by decide) ?_
    exact W.iret (v := (-101)) hx hb hr (fun t ht hW => ⟨(-101), rfl, (by unfold fAsM; grind), ht⟩) (fun q h => by cases h) dX6_as_10

set_option maxHeartbeats 4000000 in
set_option maxRecDepth 100000 in
theorem c_X6_keeps (l : Launch) (D : va_G) (cI cZ cA : ClassId) (mo : Nat) (apg : Nat) (P : Nat) (ea : Int32) (K : Nat) (Hn : Nat) (ym : Int32) (tm : Int32) (arw : Nat) (ans : Nat) (aro : Nat) (abo : Nat) (Sm : Nat) (asi : Nat) (sd : Int32) (asv : Nat) (kt : Int32) (ky : Int32) (ks : Nat) (akr : Nat) (akn : Nat) (aks : Nat) (ha : Int64) (rw : Nat → Int32) (k : Int32) (hd0 : Int32) (hK : K ≤ 5) : Met l yX6_keeps wsX6_keeps (zr 3) (va_Pc [.ref mo, .int k, .int hd0] (zPr D cI cZ cA [(mo, .inr (6, [.ref apg, .int (nI P), .int ea, .int (nI K), .int (nI Hn), .int ym, .int tm, .ref arw, .ref ans, .ref aro, .ref abo, .int (nI Sm), .ref asi, .int sd, .ref asv, .int kt, .int ky, .int (nI ks), .ref akr, .ref akn, .ref aks, .long ha])), (arw, .inl (cI, 15, .inl rw))])) (vp_Si (fun r => r = fKeepsM rw K k hd0)) 0 0 (fun _ => False) := by
  refine Met.ofW (cc := cX6_keeps) (maxL := 3) (ret := (some .int)) (by decide) rfl ?_
  intro p e s m args below meth c s₁ B hml hv
  obtain ⟨rfl, hP, hE⟩ := hv
  have hx := B.exec
  have hb := B.bytes
  have hr := B.returns
  have hts := atoms_spec (ws := wsX6_keeps) B.pre
  have hown : s.vm.findClass RX6 = some m.cls := findClass_of_methodNamed B.named
  have hlocks := B.notSynchronized
  have hP : va_P D vwCl [(mo, .inr (6, [.ref apg, .int (nI P), .int ea, .int (nI K), .int (nI Hn), .int ym, .int tm, .ref arw, .ref ans, .ref aro, .ref abo, .int (nI Sm), .ref asi, .int sd, .ref asv, .int kt, .int ky, .int (nI ks), .ref akr, .ref akn, .ref aks, .long ha])), (arw, .inl (cI, 15, .inl rw))] s.heap := hP
  have hl := lv_entry ([.ref mo, .int k, .int hd0]) (n := 3) (Nat.le_of_ble_eq_true rfl)
  rw [lg_entry_eq]
  generalize (lg_sl ([.ref mo, .int k, .int hd0]) ++ List.replicate (3 - (lg_sl ([.ref mo, .int k, .int hd0])).length) Slot.unset).toArray = ls at hl ⊢
  have hl : lv_has ls 3 [(0, .ref mo), (1, .int k), (2, .int hd0)] := hl
  have k_0 := hts (.constantLong RX6 116 (9)) (by decide +kernel)
  refine lv_aload_n hx hb dX6_keeps_0 rfl (lv_at hl 0 rfl) ?_
  refine lv_iload_n hx hb dX6_keeps_1 rfl (lv_at hl 1 rfl) ?_
  refine z_roVi (As := [.int k]) (rest := []) ⟨hx, hb, hml, hown, hts⟩ (c_X6_isKeeper l D cI cZ cA mo apg P ea K Hn ym tm arw ans aro abo Sm asi sd asv kt ky ks akr akn aks ha k (by first | assumption | omega)) (cwV 1 hts gX6_keeps_X6_isKeeper rfl rfl rfl (by decide +kernel) ⟨Nat.le_of_ble_eq_true rfl, Nat.le_of_ble_eq_true rfl⟩) hE hP [0] rfl 0 6 rfl rfl rfl hl.1 rfl (Nat.le_of_ble_eq_true rfl) dX6_keeps_2 ⟨Nat.zero_le _, Nat.zero_le _⟩ ?_
  refine lv_if_ne (tgt := 11) hx hb dX6_keeps_5 (by decide) (fun c_5 => ?_) (fun c_5 => ?_)
  · have c_5 := zb_1 c_5
    obtain ⟨j, hj, ej⟩ := z_ix c_5 (by omega)
    have tj : k.toNatClampNeg = j := by rw [ej, nI_clamp (by omega)]
    refine lv_iload_n hx hb dX6_keeps_11 rfl (lv_at hl 2 rfl) ?_
    refine lv_i2l (v := (hd0 : Int32).toInt64) hx hb dX6_keeps_12 rfl ?_
    refine lv_lconst (v := 0) hx hb dX6_keeps_13 (by decide) ?_
    refine lv_ldc2 (v := 9) hx hb hown k_0 dX6_keeps_14 ?_
    refine z_roSi (As := [.long ((hd0 : Int32).toInt64), .long 0, .long 9]) (rest := []) ⟨hx, hb, hml, hown, hts⟩ (c_X6_in l D cI cZ cA ((hd0 : Int32).toInt64) 0 9 ) (va_cwS 3 hts gX6_keeps_X6_in rfl rfl rfl (by decide +kernel) ⟨Nat.le_of_ble_eq_true rfl, Nat.le_of_ble_eq_true rfl⟩) hE hP [] rfl rfl hl.1 rfl (Nat.le_of_ble_eq_true rfl) dX6_keeps_17 ⟨Nat.zero_le _, Nat.zero_le _⟩ ?_
    refine lv_if_eq (tgt := 32) hx hb dX6_keeps_20 (by decide) (fun c_20 => ?_) (fun c_20 => ?_)
    · have c_20 := zb_0 c_20
      rw [zin (lo := 0) (hi := 9) (by decide) (by decide)] at c_20
      refine lv_bipush (v := (-102)) hx hb dX6_keeps_32 (by decide) ?_
      exact W.iret (v := (-102)) hx hb hr (fun t ht hW => ⟨(-102), rfl, (by unfold fKeepsM; grind), ht⟩) (fun q h => by cases h) dX6_keeps_34
    · have c_20 := zb_1 c_20
      rw [zin (lo := 0) (hi := 9) (by decide) (by decide)] at c_20
      refine lv_aload_n hx hb dX6_keeps_23 rfl (lv_at hl 0 rfl) ?_
      refine lv_iload_n hx hb dX6_keeps_24 rfl (lv_at hl 1 rfl) ?_
      refine lv_iload_n hx hb dX6_keeps_25 rfl (lv_at hl 2 rfl) ?_
      refine W.eq (g2 := F0 m 26 ls [.int hd0, .int (nI j), .ref mo]) (by rw [show (k : Int32) = nI j from ej]) ?_
      refine z_roVi (As := [.int (nI j), .int hd0]) (rest := []) ⟨hx, hb, hml, hown, hts⟩ (c_X6_tenthsOf l D cI cZ cA mo apg P ea K Hn ym tm arw ans aro abo Sm asi sd asv kt ky ks akr akn aks ha rw j hd0 (by first | assumption | omega)) (cwV 2 hts gX6_keeps_X6_tenthsOf rfl rfl rfl (by decide +kernel) ⟨Nat.le_of_ble_eq_true rfl, Nat.le_of_ble_eq_true rfl⟩) hE hP [0, 1] rfl 0 6 rfl rfl rfl hl.1 rfl (Nat.le_of_ble_eq_true rfl) dX6_keeps_26 ⟨Nat.zero_le _, Nat.zero_le _⟩ ?_
      refine lv_goto (tgt := 34) hx hb dX6_keeps_29 (by decide) ?_
      exact W.iret (v := (tb (rw (3 * j)) (rw (3 * j + 1)) hd0)) hx hb hr (fun t ht hW => ⟨(tb (rw (3 * j)) (rw (3 * j + 1)) hd0), rfl, (by unfold fKeepsM; grind), ht⟩) (fun q h => by cases h) dX6_keeps_34
  · have c_5 := zb_0 c_5
    refine lv_bipush (v := (-101)) hx hb dX6_keeps_8 (by decide) ?_
    exact W.iret (v := (-101)) hx hb hr (fun t ht hW => ⟨(-101), rfl, (by unfold fKeepsM; grind), ht⟩) (fun q h => by cases h) dX6_keeps_10

set_option maxHeartbeats 4000000 in
set_option maxRecDepth 100000 in
theorem c_X6_let (l : Launch) (D : va_G) (cI cZ cA : ClassId) (sz : Nat) (mo : Nat) (apg : Nat) (P : Nat) (ea : Int32) (K : Nat) (Hn : Nat) (ym : Int32) (tm : Int32) (arw : Nat) (ans : Nat) (aro : Nat) (abo : Nat) (Sm : Nat) (asi : Nat) (sd : Int32) (asv : Nat) (kt : Int32) (ky : Int32) (ks : Nat) (akr : Nat) (akn : Nat) (aks : Nat) (ha : Int64) (ns : Nat → Int32) (h : Int32) (k : Int32) (hK : K ≤ 5) (hH : Hn ≤ 5) : Met l yX6_let wsX6_let (zr 3) (va_Pc [.ref mo, .int h, .int k] (zPw D cI cZ cA [(mo, .inr (6, [.ref apg, .int (nI P), .int ea, .int (nI K), .int (nI Hn), .int ym, .int tm, .ref arw, .ref ans, .ref aro, .ref abo, .int (nI Sm), .ref asi, .int sd, .ref asv, .int kt, .int ky, .int (nI ks), .ref akr, .ref akn, .ref aks, .long ha])), (ans, .inl (cI, 20, .inl ns))] sz)) (va_Qi (fun (r : Int32) (_ : Unit) => r = (fLetM ns K Hn h k).1) (zB D [(mo, .inr (6, [.ref apg, .int (nI P), .int ea, .int (nI K), .int (nI Hn), .int ym, .int tm, .ref arw, .ref ans, .ref aro, .ref abo, .int (nI Sm), .ref asi, .int sd, .ref asv, .int kt, .int ky, .int (nI ks), .ref akr, .ref akn, .ref aks, .long ha])), (ans, .inl (cI, 20, .inl ((fLetM ns K Hn h k).2)))] (va_A [(mo, .inr (6, [.ref apg, .int (nI P), .int ea, .int (nI K), .int (nI Hn), .int ym, .int tm, .ref arw, .ref ans, .ref aro, .ref abo, .int (nI Sm), .ref asi, .int sd, .ref asv, .int kt, .int ky, .int (nI ks), .ref akr, .ref akn, .ref aks, .long ha])), (ans, .inl (cI, 20, .inl ns))] sz)) (va_A [(mo, .inr (6, [.ref apg, .int (nI P), .int ea, .int (nI K), .int (nI Hn), .int ym, .int tm, .ref arw, .ref ans, .ref aro, .ref abo, .int (nI Sm), .ref asi, .int sd, .ref asv, .int kt, .int ky, .int (nI ks), .ref akr, .ref akn, .ref aks, .long ha])), (ans, .inl (cI, 20, .inl ns))] sz)) 0 0 (va_A [(mo, .inr (6, [.ref apg, .int (nI P), .int ea, .int (nI K), .int (nI Hn), .int ym, .int tm, .ref arw, .ref ans, .ref aro, .ref abo, .int (nI Sm), .ref asi, .int sd, .ref asv, .int kt, .int ky, .int (nI ks), .ref akr, .ref akn, .ref aks, .long ha])), (ans, .inl (cI, 20, .inl ns))] sz) := by
  refine Met.ofW (cc := cX6_let) (maxL := 3) (ret := (some .int)) (by decide) rfl ?_
  intro p e s m args below meth c s₁ B hml hv
  obtain ⟨rfl, hsz, hP, hD0, hE⟩ := hv
  have hx := B.exec
  have hb := B.bytes
  have hr := B.returns
  have hts := atoms_spec (ws := wsX6_let) B.pre
  have hown : s.vm.findClass RX6 = some m.cls := findClass_of_methodNamed B.named
  have hlocks := B.notSynchronized
  subst hsz
  have hD := hD0.self (sz := s.heap.size)
  generalize hAe : va_A [(mo, .inr (6, [.ref apg, .int (nI P), .int ea, .int (nI K), .int (nI Hn), .int ym, .int tm, .ref arw, .ref ans, .ref aro, .ref abo, .int (nI Sm), .ref asi, .int sd, .ref asv, .int kt, .int ky, .int (nI ks), .ref akr, .ref akn, .ref aks, .long ha])), (ans, .inl (cI, 20, .inl ns))] s.heap.size = A at hD ⊢
  have hA : ∀ q : Nat, s.heap.size ≤ q → A q := fun q h => by rw [← hAe]; exact Or.inr h
  have hS : va_S A s.heap s.heap [] := va_S.rf
  have hP : va_P D vwCl [(mo, .inr (6, [.ref apg, .int (nI P), .int ea, .int (nI K), .int (nI Hn), .int ym, .int tm, .ref arw, .ref ans, .ref aro, .ref abo, .int (nI Sm), .ref asi, .int sd, .ref asv, .int kt, .int ky, .int (nI ks), .ref akr, .ref akn, .ref aks, .long ha])), (ans, .inl (cI, 20, .inl ns))] s.heap := hP
  have hD : va_D A [(mo, .inr (6, [.ref apg, .int (nI P), .int ea, .int (nI K), .int (nI Hn), .int ym, .int tm, .ref arw, .ref ans, .ref aro, .ref abo, .int (nI Sm), .ref asi, .int sd, .ref asv, .int kt, .int ky, .int (nI ks), .ref akr, .ref akn, .ref aks, .long ha])), (ans, .inl (cI, 20, .inl ns))] := hD
  have hl := lv_entry ([.ref mo, .int h, .int k]) (n := 3) (Nat.le_of_ble_eq_true rfl)
  rw [lg_entry_eq]
  generalize (lg_sl ([.ref mo, .int h, .int k]) ++ List.replicate (3 - (lg_sl ([.ref mo, .int h, .int k])).length) Slot.unset).toArray = ls at hl ⊢
  have hl : lv_has ls 3 [(0, .ref mo), (1, .int h), (2, .int k)] := hl
  have hinX6 : ∀ w ∈ wsX60, w ∈ wsX6_let := fun w h => List.mem_cons_of_mem _ (List.mem_append_right _ h)
  have k_0 := hts (.fieldLink RX6 16 "VowDovesModel" "nests" "[I") (by decide +kernel)
  refine lv_aload_n hx hb dX6_let_0 rfl (lv_at hl 0 rfl) ?_
  refine lv_iload_n hx hb dX6_let_1 rfl (lv_at hl 1 rfl) ?_
  refine z_roVi (As := [.int h]) (rest := []) ⟨hx, hb, hml, hown, hts⟩ (c_X6_isHole l D cI cZ cA mo apg P ea K Hn ym tm arw ans aro abo Sm asi sd asv kt ky ks akr akn aks ha h (by first | assumption | omega)) (cwV 1 hts gX6_let_X6_isHole rfl rfl rfl (by decide +kernel) ⟨Nat.le_of_ble_eq_true rfl, Nat.le_of_ble_eq_true rfl⟩) hE hP [0] rfl 0 6 rfl rfl rfl hl.1 rfl (Nat.le_of_ble_eq_true rfl) dX6_let_2 ⟨Nat.zero_le _, Nat.zero_le _⟩ ?_
  refine lv_if_eq (tgt := 16) hx hb dX6_let_5 (by decide) (fun c_5 => ?_) (fun c_5 => ?_)
  · have c_5 := zb_0 c_5
    refine lv_bipush (v := (-101)) hx hb dX6_let_16 (by decide) ?_
    have e9 : (fLetM ns K Hn h k) = ((-101), ns) := (by unfold fLetM; grind)
    have hP9 := hP.sub (ws' := [(mo, .inr (6, [.ref apg, .int (nI P), .int ea, .int (nI K), .int (nI Hn), .int ym, .int tm, .ref arw, .ref ans, .ref aro, .ref abo, .int (nI Sm), .ref asi, .int sd, .ref asv, .int kt, .int ky, .int (nI ks), .ref akr, .ref akn, .ref aks, .long ha])), (ans, .inl (cI, 20, .inl ((fLetM ns K Hn h k).2)))]) [0, 1] (by rw [e9]; try rfl)
    have hD9 := hD.sub (ws' := [(mo, .inr (6, [.ref apg, .int (nI P), .int ea, .int (nI K), .int (nI Hn), .int ym, .int tm, .ref arw, .ref ans, .ref aro, .ref abo, .int (nI Sm), .ref asi, .int sd, .ref asv, .int kt, .int ky, .int (nI ks), .ref akr, .ref akn, .ref aks, .long ha])), (ans, .inl (cI, 20, .inl ((fLetM ns K Hn h k).2)))]) [0, 1] (by decide) (by rw [e9]; try rfl)
    exact W.iret (v := (-101)) hx hb hr (fun t ht hW => ⟨⟨(-101), (), rfl, (by rw [e9]; try rfl), by rw [ht]; exact hP9, hD9⟩, hS.F ht⟩) hS.2.2 dX6_let_18
  · have c_5 := zb_1 c_5
    obtain ⟨j, hj, ej⟩ := z_ix c_5 (by omega)
    have tj : h.toNatClampNeg = j := by rw [ej, nI_clamp (by omega)]
    refine lv_aload_n hx hb dX6_let_8 rfl (lv_at hl 0 rfl) ?_
    refine lv_iload_n hx hb dX6_let_9 rfl (lv_at hl 2 rfl) ?_
    refine z_roVi (As := [.int k]) (rest := []) ⟨hx, hb, hml, hown, hts⟩ (c_X6_isKeeper l D cI cZ cA mo apg P ea K Hn ym tm arw ans aro abo Sm asi sd asv kt ky ks akr akn aks ha k (by first | assumption | omega)) (cwV 1 hts gX6_let_X6_isKeeper rfl rfl rfl (by decide +kernel) ⟨Nat.le_of_ble_eq_true rfl, Nat.le_of_ble_eq_true rfl⟩) hE hP [0] rfl 0 6 rfl rfl rfl hl.1 rfl (Nat.le_of_ble_eq_true rfl) dX6_let_10 ⟨Nat.zero_le _, Nat.zero_le _⟩ ?_
    refine lv_if_ne (tgt := 19) hx hb dX6_let_13 (by decide) (fun c_13 => ?_) (fun c_13 => ?_)
    · have c_13 := zb_1 c_13
      refine lv_aload_n hx hb dX6_let_19 rfl (lv_at hl 0 rfl) ?_
      refine va_get (D := D) (ci := 6) (v := .ref ans) (C := RX6) (T := TX6) (N := 22) hx hb hts hinX6 hown hE.1 hP 0 rfl rfl 8 (by decide) k_0 (fun _ h9 => h9) rfl dX6_let_20 ?_
      refine lv_iconst (v := 4) hx hb dX6_let_23 (by decide) ?_
      refine lv_iload_n hx hb dX6_let_24 rfl (lv_at hl 1 rfl) ?_
      refine z_imulN hx hb (a := 4) (b := j) rfl ej dX6_let_25 ?_
      refine lv_iconst (v := 2) hx hb dX6_let_26 (by decide) ?_
      refine z_iaddN hx hb (a := 4 * j) (b := 2) rfl rfl dX6_let_27 ?_
      refine z_iald hx hb hE hP 1 rfl (j := (4 * j) + 2) rfl (by omega) (by decide) dX6_let_28 ?_
      refine lv_if_ne (tgt := 44) hx hb dX6_let_29 (by decide) (fun c_29 => ?_) (fun c_29 => ?_)
      · refine lv_bipush (v := (-103)) hx hb dX6_let_44 (by decide) ?_
        have e9 : (fLetM ns K Hn h k) = ((-103), ns) := (by unfold fLetM; grind)
        have hP9 := hP.sub (ws' := [(mo, .inr (6, [.ref apg, .int (nI P), .int ea, .int (nI K), .int (nI Hn), .int ym, .int tm, .ref arw, .ref ans, .ref aro, .ref abo, .int (nI Sm), .ref asi, .int sd, .ref asv, .int kt, .int ky, .int (nI ks), .ref akr, .ref akn, .ref aks, .long ha])), (ans, .inl (cI, 20, .inl ((fLetM ns K Hn h k).2)))]) [0, 1] (by rw [e9]; try rfl)
        have hD9 := hD.sub (ws' := [(mo, .inr (6, [.ref apg, .int (nI P), .int ea, .int (nI K), .int (nI Hn), .int ym, .int tm, .ref arw, .ref ans, .ref aro, .ref abo, .int (nI Sm), .ref asi, .int sd, .ref asv, .int kt, .int ky, .int (nI ks), .ref akr, .ref akn, .ref aks, .long ha])), (ans, .inl (cI, 20, .inl ((fLetM ns K Hn h k).2)))]) [0, 1] (by decide) (by rw [e9]; try rfl)
        exact W.iret (v := (-103)) hx hb hr (fun t ht hW => ⟨⟨(-103), (), rfl, (by rw [e9]; try rfl), by rw [ht]; exact hP9, hD9⟩, hS.F ht⟩) hS.2.2 dX6_let_46
      · refine lv_aload_n hx hb dX6_let_32 rfl (lv_at hl 0 rfl) ?_
        refine lv_iload_n hx hb dX6_let_33 rfl (lv_at hl 2 rfl) ?_
        refine z_roVi (As := [.int k]) (rest := []) ⟨hx, hb, hml, hown, hts⟩ (c_X6_setOf l D cI cZ cA mo apg P ea K Hn ym tm arw ans aro abo Sm asi sd asv kt ky ks akr akn aks ha ns k (by first | assumption | omega)) (cwV 1 hts gX6_let_X6_setOf rfl rfl rfl (by decide +kernel) ⟨Nat.le_of_ble_eq_true rfl, Nat.le_of_ble_eq_true rfl⟩) hE hP [0, 1] rfl 0 6 rfl rfl rfl hl.1 rfl (Nat.le_of_ble_eq_true rfl) dX6_let_34 ⟨Nat.zero_le _, Nat.zero_le _⟩ ?_
        refine z_roSi (As := [.int (sOfN ns k Hn)]) (rest := []) ⟨hx, hb, hml, hown, hts⟩ (c_X6_ones l D cI cZ cA (sOfN ns k Hn) ) (va_cwS 1 hts gX6_let_X6_ones rfl rfl rfl (by decide +kernel) ⟨Nat.le_of_ble_eq_true rfl, Nat.le_of_ble_eq_true rfl⟩) hE hP [] rfl rfl hl.1 rfl (Nat.le_of_ble_eq_true rfl) dX6_let_37 ⟨Nat.zero_le _, Nat.zero_le _⟩ ?_
        refine lv_iconst (v := 2) hx hb dX6_let_40 (by decide) ?_
        refine lv_icmp_ne (tgt := 47) hx hb dX6_let_41 (by decide) (fun c_41 => ?_) (fun c_41 => ?_)
        · refine lv_aload_n hx hb dX6_let_47 rfl (lv_at hl 0 rfl) ?_
          refine va_get (D := D) (ci := 6) (v := .ref ans) (C := RX6) (T := TX6) (N := 22) hx hb hts hinX6 hown hE.1 hP 0 rfl rfl 8 (by decide) k_0 (fun _ h9 => h9) rfl dX6_let_48 ?_
          refine lv_iconst (v := 4) hx hb dX6_let_51 (by decide) ?_
          refine lv_iload_n hx hb dX6_let_52 rfl (lv_at hl 1 rfl) ?_
          refine z_imulN hx hb (a := 4) (b := j) rfl ej dX6_let_53 ?_
          refine lv_iconst (v := 1) hx hb dX6_let_54 (by decide) ?_
          refine z_iaddN hx hb (a := 4 * j) (b := 1) rfl rfl dX6_let_55 ?_
          refine lv_iload_n hx hb dX6_let_56 rfl (lv_at hl 2 rfl) ?_
          refine z_iast hx hb hE hP hD hS 1 rfl (j := (4 * j) + 1) rfl (by omega) (by decide) dX6_let_57 (fun H locs hP hD hS => ?_)
          have hP : va_P D vwCl [(mo, .inr (6, [.ref apg, .int (nI P), .int ea, .int (nI K), .int (nI Hn), .int ym, .int tm, .ref arw, .ref ans, .ref aro, .ref abo, .int (nI Sm), .ref asi, .int sd, .ref asv, .int kt, .int ky, .int (nI ks), .ref akr, .ref akn, .ref aks, .long ha])), (ans, .inl (cI, 20, .inl (upd ns ((4 * j) + 1) k)))] H := hP
          have hD : va_D A [(mo, .inr (6, [.ref apg, .int (nI P), .int ea, .int (nI K), .int (nI Hn), .int ym, .int tm, .ref arw, .ref ans, .ref aro, .ref abo, .int (nI Sm), .ref asi, .int sd, .ref asv, .int kt, .int ky, .int (nI ks), .ref akr, .ref akn, .ref aks, .long ha])), (ans, .inl (cI, 20, .inl (upd ns ((4 * j) + 1) k)))] := hD
          refine lv_aload_n hx hb dX6_let_58 rfl (lv_at hl 0 rfl) ?_
          refine va_get (D := D) (ci := 6) (v := .ref ans) (C := RX6) (T := TX6) (N := 22) hx hb hts hinX6 hown hE.1 hP 0 rfl rfl 8 (by decide) k_0 (fun _ h9 => h9) rfl dX6_let_59 ?_
          refine lv_iconst (v := 4) hx hb dX6_let_62 (by decide) ?_
          refine lv_iload_n hx hb dX6_let_63 rfl (lv_at hl 1 rfl) ?_
          refine z_imulN hx hb (a := 4) (b := j) rfl ej dX6_let_64 ?_
          refine lv_iconst (v := 2) hx hb dX6_let_65 (by decide) ?_
          refine z_iaddN hx hb (a := 4 * j) (b := 2) rfl rfl dX6_let_66 ?_
          refine lv_iconst (v := 1) hx hb dX6_let_67 (by decide) ?_
          refine z_iast hx hb hE hP hD hS 1 rfl (j := (4 * j) + 2) rfl (by omega) (by decide) dX6_let_68 (fun H locs hP hD hS => ?_)
          have hP : va_P D vwCl [(mo, .inr (6, [.ref apg, .int (nI P), .int ea, .int (nI K), .int (nI Hn), .int ym, .int tm, .ref arw, .ref ans, .ref aro, .ref abo, .int (nI Sm), .ref asi, .int sd, .ref asv, .int kt, .int ky, .int (nI ks), .ref akr, .ref akn, .ref aks, .long ha])), (ans, .inl (cI, 20, .inl (upd (upd ns ((4 * j) + 1) k) ((4 * j) + 2) 1)))] H := hP
          have hD : va_D A [(mo, .inr (6, [.ref apg, .int (nI P), .int ea, .int (nI K), .int (nI Hn), .int ym, .int tm, .ref arw, .ref ans, .ref aro, .ref abo, .int (nI Sm), .ref asi, .int sd, .ref asv, .int kt, .int ky, .int (nI ks), .ref akr, .ref akn, .ref aks, .long ha])), (ans, .inl (cI, 20, .inl (upd (upd ns ((4 * j) + 1) k) ((4 * j) + 2) 1)))] := hD
          refine lv_aload_n hx hb dX6_let_69 rfl (lv_at hl 0 rfl) ?_
          refine lv_iload_n hx hb dX6_let_70 rfl (lv_at hl 2 rfl) ?_
          refine z_roVi (As := [.int k]) (rest := []) ⟨hx, hb, hml, hown, hts⟩ (c_X6_setOf l D cI cZ cA mo apg P ea K Hn ym tm arw ans aro abo Sm asi sd asv kt ky ks akr akn aks ha (upd (upd ns ((4 * j) + 1) k) ((4 * j) + 2) 1) k (by first | assumption | omega)) (cwV 1 hts gX6_let_X6_setOf rfl rfl rfl (by decide +kernel) ⟨Nat.le_of_ble_eq_true rfl, Nat.le_of_ble_eq_true rfl⟩) hE hP [0, 1] rfl 0 6 rfl rfl rfl hl.1 rfl (Nat.le_of_ble_eq_true rfl) dX6_let_71 ⟨Nat.zero_le _, Nat.zero_le _⟩ ?_
          refine z_roSi (As := [.int (sOfN (upd (upd ns ((4 * j) + 1) k) ((4 * j) + 2) 1) k Hn)]) (rest := []) ⟨hx, hb, hml, hown, hts⟩ (c_X6_ones l D cI cZ cA (sOfN (upd (upd ns ((4 * j) + 1) k) ((4 * j) + 2) 1) k Hn) ) (va_cwS 1 hts gX6_let_X6_ones rfl rfl rfl (by decide +kernel) ⟨Nat.le_of_ble_eq_true rfl, Nat.le_of_ble_eq_true rfl⟩) hE hP [] rfl rfl hl.1 rfl (Nat.le_of_ble_eq_true rfl) dX6_let_74 ⟨Nat.zero_le _, Nat.zero_le _⟩ ?_
          have e9 : (fLetM ns K Hn h k) = ((oneN (sOfN (upd (upd ns ((4 * j) + 1) k) ((4 * j) + 2) 1) k Hn) 5), upd (upd ns ((4 * j) + 1) k) ((4 * j) + 2) 1) := (by unfold fLetM; grind)
          have hP9 := hP.sub (ws' := [(mo, .inr (6, [.ref apg, .int (nI P), .int ea, .int (nI K), .int (nI Hn), .int ym, .int tm, .ref arw, .ref ans, .ref aro, .ref abo, .int (nI Sm), .ref asi, .int sd, .ref asv, .int kt, .int ky, .int (nI ks), .ref akr, .ref akn, .ref aks, .long ha])), (ans, .inl (cI, 20, .inl ((fLetM ns K Hn h k).2)))]) [0, 1] (by rw [e9]; try rfl)
          have hD9 := hD.sub (ws' := [(mo, .inr (6, [.ref apg, .int (nI P), .int ea, .int (nI K), .int (nI Hn), .int ym, .int tm, .ref arw, .ref ans, .ref aro, .ref abo, .int (nI Sm), .ref asi, .int sd, .ref asv, .int kt, .int ky, .int (nI ks), .ref akr, .ref akn, .ref aks, .long ha])), (ans, .inl (cI, 20, .inl ((fLetM ns K Hn h k).2)))]) [0, 1] (by decide) (by rw [e9]; try rfl)
          exact W.iret (v := (oneN (sOfN (upd (upd ns ((4 * j) + 1) k) ((4 * j) + 2) 1) k Hn) 5)) hx hb hr (fun t ht hW => ⟨⟨(oneN (sOfN (upd (upd ns ((4 * j) + 1) k) ((4 * j) + 2) 1) k Hn) 5), (), rfl, (by rw [e9]; try rfl), by rw [ht]; exact hP9, hD9⟩, hS.F ht⟩) hS.2.2 dX6_let_77
        · refine lv_bipush (v := (-103)) hx hb dX6_let_44 (by decide) ?_
          have e9 : (fLetM ns K Hn h k) = ((-103), ns) := (by unfold fLetM; grind)
          have hP9 := hP.sub (ws' := [(mo, .inr (6, [.ref apg, .int (nI P), .int ea, .int (nI K), .int (nI Hn), .int ym, .int tm, .ref arw, .ref ans, .ref aro, .ref abo, .int (nI Sm), .ref asi, .int sd, .ref asv, .int kt, .int ky, .int (nI ks), .ref akr, .ref akn, .ref aks, .long ha])), (ans, .inl (cI, 20, .inl ((fLetM ns K Hn h k).2)))]) [0, 1] (by rw [e9]; try rfl)
          have hD9 := hD.sub (ws' := [(mo, .inr (6, [.ref apg, .int (nI P), .int ea, .int (nI K), .int (nI Hn), .int ym, .int tm, .ref arw, .ref ans, .ref aro, .ref abo, .int (nI Sm), .ref asi, .int sd, .ref asv, .int kt, .int ky, .int (nI ks), .ref akr, .ref akn, .ref aks, .long ha])), (ans, .inl (cI, 20, .inl ((fLetM ns K Hn h k).2)))]) [0, 1] (by decide) (by rw [e9]; try rfl)
          exact W.iret (v := (-103)) hx hb hr (fun t ht hW => ⟨⟨(-103), (), rfl, (by rw [e9]; try rfl), by rw [ht]; exact hP9, hD9⟩, hS.F ht⟩) hS.2.2 dX6_let_46
    · have c_13 := zb_0 c_13
      refine lv_bipush (v := (-101)) hx hb dX6_let_16 (by decide) ?_
      have e9 : (fLetM ns K Hn h k) = ((-101), ns) := (by unfold fLetM; grind)
      have hP9 := hP.sub (ws' := [(mo, .inr (6, [.ref apg, .int (nI P), .int ea, .int (nI K), .int (nI Hn), .int ym, .int tm, .ref arw, .ref ans, .ref aro, .ref abo, .int (nI Sm), .ref asi, .int sd, .ref asv, .int kt, .int ky, .int (nI ks), .ref akr, .ref akn, .ref aks, .long ha])), (ans, .inl (cI, 20, .inl ((fLetM ns K Hn h k).2)))]) [0, 1] (by rw [e9]; try rfl)
      have hD9 := hD.sub (ws' := [(mo, .inr (6, [.ref apg, .int (nI P), .int ea, .int (nI K), .int (nI Hn), .int ym, .int tm, .ref arw, .ref ans, .ref aro, .ref abo, .int (nI Sm), .ref asi, .int sd, .ref asv, .int kt, .int ky, .int (nI ks), .ref akr, .ref akn, .ref aks, .long ha])), (ans, .inl (cI, 20, .inl ((fLetM ns K Hn h k).2)))]) [0, 1] (by decide) (by rw [e9]; try rfl)
      exact W.iret (v := (-101)) hx hb hr (fun t ht hW => ⟨⟨(-101), (), rfl, (by rw [e9]; try rfl), by rw [ht]; exact hP9, hD9⟩, hS.F ht⟩) hS.2.2 dX6_let_18

set_option maxHeartbeats 4000000 in
set_option maxRecDepth 100000 in
theorem c_X6_leave (l : Launch) (D : va_G) (cI cZ cA : ClassId) (sz : Nat) (mo : Nat) (apg : Nat) (P : Nat) (ea : Int32) (K : Nat) (Hn : Nat) (ym : Int32) (tm : Int32) (arw : Nat) (ans : Nat) (aro : Nat) (abo : Nat) (Sm : Nat) (asi : Nat) (sd : Int32) (asv : Nat) (kt : Int32) (ky : Int32) (ks : Nat) (akr : Nat) (akn : Nat) (aks : Nat) (ha : Int64) (ns : Nat → Int32) (h : Int32) (hH : Hn ≤ 5) : Met l yX6_leave wsX6_leave (zr 3) (va_Pc [.ref mo, .int h] (zPw D cI cZ cA [(mo, .inr (6, [.ref apg, .int (nI P), .int ea, .int (nI K), .int (nI Hn), .int ym, .int tm, .ref arw, .ref ans, .ref aro, .ref abo, .int (nI Sm), .ref asi, .int sd, .ref asv, .int kt, .int ky, .int (nI ks), .ref akr, .ref akn, .ref aks, .long ha])), (ans, .inl (cI, 20, .inl ns))] sz)) (va_Qi (fun (r : Int32) (_ : Unit) => r = (fLeaveM ns Hn h).1) (zB D [(mo, .inr (6, [.ref apg, .int (nI P), .int ea, .int (nI K), .int (nI Hn), .int ym, .int tm, .ref arw, .ref ans, .ref aro, .ref abo, .int (nI Sm), .ref asi, .int sd, .ref asv, .int kt, .int ky, .int (nI ks), .ref akr, .ref akn, .ref aks, .long ha])), (ans, .inl (cI, 20, .inl ((fLeaveM ns Hn h).2)))] (va_A [(mo, .inr (6, [.ref apg, .int (nI P), .int ea, .int (nI K), .int (nI Hn), .int ym, .int tm, .ref arw, .ref ans, .ref aro, .ref abo, .int (nI Sm), .ref asi, .int sd, .ref asv, .int kt, .int ky, .int (nI ks), .ref akr, .ref akn, .ref aks, .long ha])), (ans, .inl (cI, 20, .inl ns))] sz)) (va_A [(mo, .inr (6, [.ref apg, .int (nI P), .int ea, .int (nI K), .int (nI Hn), .int ym, .int tm, .ref arw, .ref ans, .ref aro, .ref abo, .int (nI Sm), .ref asi, .int sd, .ref asv, .int kt, .int ky, .int (nI ks), .ref akr, .ref akn, .ref aks, .long ha])), (ans, .inl (cI, 20, .inl ns))] sz)) 0 0 (va_A [(mo, .inr (6, [.ref apg, .int (nI P), .int ea, .int (nI K), .int (nI Hn), .int ym, .int tm, .ref arw, .ref ans, .ref aro, .ref abo, .int (nI Sm), .ref asi, .int sd, .ref asv, .int kt, .int ky, .int (nI ks), .ref akr, .ref akn, .ref aks, .long ha])), (ans, .inl (cI, 20, .inl ns))] sz) := by
  refine Met.ofW (cc := cX6_leave) (maxL := 3) (ret := (some .int)) (by decide) rfl ?_
  intro p e s m args below meth c s₁ B hml hv
  obtain ⟨rfl, hsz, hP, hD0, hE⟩ := hv
  have hx := B.exec
  have hb := B.bytes
  have hr := B.returns
  have hts := atoms_spec (ws := wsX6_leave) B.pre
  have hown : s.vm.findClass RX6 = some m.cls := findClass_of_methodNamed B.named
  have hlocks := B.notSynchronized
  subst hsz
  have hD := hD0.self (sz := s.heap.size)
  generalize hAe : va_A [(mo, .inr (6, [.ref apg, .int (nI P), .int ea, .int (nI K), .int (nI Hn), .int ym, .int tm, .ref arw, .ref ans, .ref aro, .ref abo, .int (nI Sm), .ref asi, .int sd, .ref asv, .int kt, .int ky, .int (nI ks), .ref akr, .ref akn, .ref aks, .long ha])), (ans, .inl (cI, 20, .inl ns))] s.heap.size = A at hD ⊢
  have hA : ∀ q : Nat, s.heap.size ≤ q → A q := fun q h => by rw [← hAe]; exact Or.inr h
  have hS : va_S A s.heap s.heap [] := va_S.rf
  have hP : va_P D vwCl [(mo, .inr (6, [.ref apg, .int (nI P), .int ea, .int (nI K), .int (nI Hn), .int ym, .int tm, .ref arw, .ref ans, .ref aro, .ref abo, .int (nI Sm), .ref asi, .int sd, .ref asv, .int kt, .int ky, .int (nI ks), .ref akr, .ref akn, .ref aks, .long ha])), (ans, .inl (cI, 20, .inl ns))] s.heap := hP
  have hD : va_D A [(mo, .inr (6, [.ref apg, .int (nI P), .int ea, .int (nI K), .int (nI Hn), .int ym, .int tm, .ref arw, .ref ans, .ref aro, .ref abo, .int (nI Sm), .ref asi, .int sd, .ref asv, .int kt, .int ky, .int (nI ks), .ref akr, .ref akn, .ref aks, .long ha])), (ans, .inl (cI, 20, .inl ns))] := hD
  have hl := lv_entry ([.ref mo, .int h]) (n := 3) (Nat.le_of_ble_eq_true rfl)
  rw [lg_entry_eq]
  generalize (lg_sl ([.ref mo, .int h]) ++ List.replicate (3 - (lg_sl ([.ref mo, .int h])).length) Slot.unset).toArray = ls at hl ⊢
  have hl : lv_has ls 3 [(0, .ref mo), (1, .int h)] := hl
  have hinX6 : ∀ w ∈ wsX60, w ∈ wsX6_leave := fun w h => List.mem_cons_of_mem _ (List.mem_append_right _ h)
  have k_0 := hts (.fieldLink RX6 16 "VowDovesModel" "nests" "[I") (by decide +kernel)
  refine lv_aload_n hx hb dX6_leave_0 rfl (lv_at hl 0 rfl) ?_
  refine lv_iload_n hx hb dX6_leave_1 rfl (lv_at hl 1 rfl) ?_
  refine z_roVi (As := [.int h]) (rest := []) ⟨hx, hb, hml, hown, hts⟩ (c_X6_isHole l D cI cZ cA mo apg P ea K Hn ym tm arw ans aro abo Sm asi sd asv kt ky ks akr akn aks ha h (by first | assumption | omega)) (cwV 1 hts gX6_leave_X6_isHole rfl rfl rfl (by decide +kernel) ⟨Nat.le_of_ble_eq_true rfl, Nat.le_of_ble_eq_true rfl⟩) hE hP [0] rfl 0 6 rfl rfl rfl hl.1 rfl (Nat.le_of_ble_eq_true rfl) dX6_leave_2 ⟨Nat.zero_le _, Nat.zero_le _⟩ ?_
  refine lv_if_ne (tgt := 11) hx hb dX6_leave_5 (by decide) (fun c_5 => ?_) (fun c_5 => ?_)
  · have c_5 := zb_1 c_5
    obtain ⟨j, hj, ej⟩ := z_ix c_5 (by omega)
    have tj : h.toNatClampNeg = j := by rw [ej, nI_clamp (by omega)]
    refine lv_aload_n hx hb dX6_leave_11 rfl (lv_at hl 0 rfl) ?_
    refine va_get (D := D) (ci := 6) (v := .ref ans) (C := RX6) (T := TX6) (N := 22) hx hb hts hinX6 hown hE.1 hP 0 rfl rfl 8 (by decide) k_0 (fun _ h9 => h9) rfl dX6_leave_12 ?_
    refine lv_iconst (v := 4) hx hb dX6_leave_15 (by decide) ?_
    refine lv_iload_n hx hb dX6_leave_16 rfl (lv_at hl 1 rfl) ?_
    refine z_imulN hx hb (a := 4) (b := j) rfl ej dX6_leave_17 ?_
    refine lv_iconst (v := 1) hx hb dX6_leave_18 (by decide) ?_
    refine z_iaddN hx hb (a := 4 * j) (b := 1) rfl rfl dX6_leave_19 ?_
    refine z_iald hx hb hE hP 1 rfl (j := (4 * j) + 1) rfl (by omega) (by decide) dX6_leave_20 ?_
    refine lv_iconst (v := (-1)) hx hb dX6_leave_21 (by decide) ?_
    refine lv_icmp_ne (tgt := 28) hx hb dX6_leave_22 (by decide) (fun c_22 => ?_) (fun c_22 => ?_)
    · refine lv_aload_n hx hb dX6_leave_28 rfl (lv_at hl 0 rfl) ?_
      refine va_get (D := D) (ci := 6) (v := .ref ans) (C := RX6) (T := TX6) (N := 22) hx hb hts hinX6 hown hE.1 hP 0 rfl rfl 8 (by decide) k_0 (fun _ h9 => h9) rfl dX6_leave_29 ?_
      refine lv_iconst (v := 4) hx hb dX6_leave_32 (by decide) ?_
      refine lv_iload_n hx hb dX6_leave_33 rfl (lv_at hl 1 rfl) ?_
      refine z_imulN hx hb (a := 4) (b := j) rfl ej dX6_leave_34 ?_
      refine lv_iconst (v := 3) hx hb dX6_leave_35 (by decide) ?_
      refine z_iaddN hx hb (a := 4 * j) (b := 3) rfl rfl dX6_leave_36 ?_
      refine z_iald hx hb hE hP 1 rfl (j := (4 * j) + 3) rfl (by omega) (by decide) dX6_leave_37 ?_
      refine lv_istore_n (lv' := [(2, .int (ns ((4 * j) + 3))), (0, .ref mo), (1, .int h)]) hx hb dX6_leave_38 rfl hl (by decide) rfl (fun ls hl => ?_)
      refine lv_aload_n hx hb dX6_leave_39 rfl (lv_at hl 1 rfl) ?_
      refine lv_iload_n hx hb dX6_leave_40 rfl (lv_at hl 2 rfl) ?_
      refine W.eq (g2 := F0 m 41 ls [.int (nI j), .ref mo]) (by rw [show (h : Int32) = nI j from ej]) ?_
      refine z_rwVv (As := [.int (nI j)]) (rest := []) (wr := []) (w1 := [(mo, .inr (6, [.ref apg, .int (nI P), .int ea, .int (nI K), .int (nI Hn), .int ym, .int tm, .ref arw, .ref ans, .ref aro, .ref abo, .int (nI Sm), .ref asi, .int sd, .ref asv, .int kt, .int ky, .int (nI ks), .ref akr, .ref akn, .ref aks, .long ha])), (ans, .inl (cI, 20, .inl (upd (upd (upd ns (4 * j + 1) (-1)) (4 * j + 2) 0) (4 * j + 3) 0)))]) ⟨hx, hb, hml, hown, hts⟩ (c_X6_empty l D cI cZ cA _ mo apg P ea K Hn ym tm arw ans aro abo Sm asi sd asv kt ky ks akr akn aks ha ns j (by first | assumption | omega)) (cwV 1 hts gX6_leave_X6_empty rfl rfl rfl (by decide +kernel) ⟨Nat.le_of_ble_eq_true rfl, Nat.le_of_ble_eq_true rfl⟩) hE hP hD hS hA [0, 1] [] rfl rfl rfl (by decide) (by decide) (by decide) 0 6 rfl rfl rfl hl.1 rfl (Nat.le_of_ble_eq_true rfl) dX6_leave_41 ⟨Nat.zero_le _, Nat.zero_le _⟩ (fun H locs hP hD hS => ?_)
      have hP : va_P D vwCl [(mo, .inr (6, [.ref apg, .int (nI P), .int ea, .int (nI K), .int (nI Hn), .int ym, .int tm, .ref arw, .ref ans, .ref aro, .ref abo, .int (nI Sm), .ref asi, .int sd, .ref asv, .int kt, .int ky, .int (nI ks), .ref akr, .ref akn, .ref aks, .long ha])), (ans, .inl (cI, 20, .inl (upd (upd (upd ns (4 * j + 1) (-1)) (4 * j + 2) 0) (4 * j + 3) 0)))] H := hP
      have hD : va_D A [(mo, .inr (6, [.ref apg, .int (nI P), .int ea, .int (nI K), .int (nI Hn), .int ym, .int tm, .ref arw, .ref ans, .ref aro, .ref abo, .int (nI Sm), .ref asi, .int sd, .ref asv, .int kt, .int ky, .int (nI ks), .ref akr, .ref akn, .ref aks, .long ha])), (ans, .inl (cI, 20, .inl (upd (upd (upd ns (4 * j + 1) (-1)) (4 * j + 2) 0) (4 * j + 3) 0)))] := hD
      refine lv_iload_n hx hb dX6_leave_44 rfl (lv_at hl 0 rfl) ?_
      have e9 : (fLeaveM ns Hn h) = (ns ((4 * j) + 3), upd (upd (upd ns (4 * j + 1) (-1)) (4 * j + 2) 0) (4 * j + 3) 0) := (by unfold fLeaveM empM; grind)
      have hP9 := hP.sub (ws' := [(mo, .inr (6, [.ref apg, .int (nI P), .int ea, .int (nI K), .int (nI Hn), .int ym, .int tm, .ref arw, .ref ans, .ref aro, .ref abo, .int (nI Sm), .ref asi, .int sd, .ref asv, .int kt, .int ky, .int (nI ks), .ref akr, .ref akn, .ref aks, .long ha])), (ans, .inl (cI, 20, .inl ((fLeaveM ns Hn h).2)))]) [0, 1] (by rw [e9]; try rfl)
      have hD9 := hD.sub (ws' := [(mo, .inr (6, [.ref apg, .int (nI P), .int ea, .int (nI K), .int (nI Hn), .int ym, .int tm, .ref arw, .ref ans, .ref aro, .ref abo, .int (nI Sm), .ref asi, .int sd, .ref asv, .int kt, .int ky, .int (nI ks), .ref akr, .ref akn, .ref aks, .long ha])), (ans, .inl (cI, 20, .inl ((fLeaveM ns Hn h).2)))]) [0, 1] (by decide) (by rw [e9]; try rfl)
      exact W.iret (v := ns ((4 * j) + 3)) hx hb hr (fun t ht hW => ⟨⟨(ns ((4 * j) + 3)), (), rfl, (by rw [e9]; try rfl), by rw [ht]; exact hP9, hD9⟩, hS.F ht⟩) hS.2.2 dX6_leave_45
    · refine lv_bipush (v := (-103)) hx hb dX6_leave_25 (by decide) ?_
      have e9 : (fLeaveM ns Hn h) = ((-103), ns) := (by unfold fLeaveM empM; grind)
      have hP9 := hP.sub (ws' := [(mo, .inr (6, [.ref apg, .int (nI P), .int ea, .int (nI K), .int (nI Hn), .int ym, .int tm, .ref arw, .ref ans, .ref aro, .ref abo, .int (nI Sm), .ref asi, .int sd, .ref asv, .int kt, .int ky, .int (nI ks), .ref akr, .ref akn, .ref aks, .long ha])), (ans, .inl (cI, 20, .inl ((fLeaveM ns Hn h).2)))]) [0, 1] (by rw [e9]; try rfl)
      have hD9 := hD.sub (ws' := [(mo, .inr (6, [.ref apg, .int (nI P), .int ea, .int (nI K), .int (nI Hn), .int ym, .int tm, .ref arw, .ref ans, .ref aro, .ref abo, .int (nI Sm), .ref asi, .int sd, .ref asv, .int kt, .int ky, .int (nI ks), .ref akr, .ref akn, .ref aks, .long ha])), (ans, .inl (cI, 20, .inl ((fLeaveM ns Hn h).2)))]) [0, 1] (by decide) (by rw [e9]; try rfl)
      exact W.iret (v := (-103)) hx hb hr (fun t ht hW => ⟨⟨(-103), (), rfl, (by rw [e9]; try rfl), by rw [ht]; exact hP9, hD9⟩, hS.F ht⟩) hS.2.2 dX6_leave_27
  · have c_5 := zb_0 c_5
    refine lv_bipush (v := (-101)) hx hb dX6_leave_8 (by decide) ?_
    have e9 : (fLeaveM ns Hn h) = ((-101), ns) := (by unfold fLeaveM empM; grind)
    have hP9 := hP.sub (ws' := [(mo, .inr (6, [.ref apg, .int (nI P), .int ea, .int (nI K), .int (nI Hn), .int ym, .int tm, .ref arw, .ref ans, .ref aro, .ref abo, .int (nI Sm), .ref asi, .int sd, .ref asv, .int kt, .int ky, .int (nI ks), .ref akr, .ref akn, .ref aks, .long ha])), (ans, .inl (cI, 20, .inl ((fLeaveM ns Hn h).2)))]) [0, 1] (by rw [e9]; try rfl)
    have hD9 := hD.sub (ws' := [(mo, .inr (6, [.ref apg, .int (nI P), .int ea, .int (nI K), .int (nI Hn), .int ym, .int tm, .ref arw, .ref ans, .ref aro, .ref abo, .int (nI Sm), .ref asi, .int sd, .ref asv, .int kt, .int ky, .int (nI ks), .ref akr, .ref akn, .ref aks, .long ha])), (ans, .inl (cI, 20, .inl ((fLeaveM ns Hn h).2)))]) [0, 1] (by decide) (by rw [e9]; try rfl)
    exact W.iret (v := (-101)) hx hb hr (fun t ht hW => ⟨⟨(-101), (), rfl, (by rw [e9]; try rfl), by rw [ht]; exact hP9, hD9⟩, hS.F ht⟩) hS.2.2 dX6_leave_10

set_option maxHeartbeats 4000000 in
set_option maxRecDepth 100000 in
theorem c_X6_keepVow (l : Launch) (D : va_G) (cI cZ cA : ClassId) (sz : Nat) (mo : Nat) (apg : Nat) (P : Nat) (ea : Int32) (K : Nat) (Hn : Nat) (ym : Int32) (tm : Int32) (arw : Nat) (ans : Nat) (aro : Nat) (abo : Nat) (Sm : Nat) (asi : Nat) (sd : Int32) (asv : Nat) (kt : Int32) (ky : Int32) (ks : Nat) (akr : Nat) (akn : Nat) (aks : Nat) (ha : Int64) (rw : Nat → Int32) (ns : Nat → Int32) (h : Nat) (k : Nat) (hh : h < 5) (hk : k < 5) (ek : ns (4 * h + 1) = nI k) : Met l yX6_keepVow wsX6_keepVow (zr 1) (va_Pc [.ref mo, .int (nI h)] (zPw D cI cZ cA [(mo, .inr (6, [.ref apg, .int (nI P), .int ea, .int (nI K), .int (nI Hn), .int ym, .int tm, .ref arw, .ref ans, .ref aro, .ref abo, .int (nI Sm), .ref asi, .int sd, .ref asv, .int kt, .int ky, .int (nI ks), .ref akr, .ref akn, .ref aks, .long ha])), (arw, .inl (cI, 15, .inl rw)), (ans, .inl (cI, 20, .inl ns))] sz)) (va_Qv (fun (_ : Unit) => True) (zB D [(mo, .inr (6, [.ref apg, .int (nI P), .int ea, .int (nI K), .int (nI Hn), .int ym, .int tm, .ref arw, .ref ans, .ref aro, .ref abo, .int (nI Sm), .ref asi, .int sd, .ref asv, .int kt, .int ky, .int (nI ks), .ref akr, .ref akn, .ref aks, .long ha])), (arw, .inl (cI, 15, .inl rw)), (ans, .inl (cI, 20, .inl (kepM rw ns h k)))] (va_A [(mo, .inr (6, [.ref apg, .int (nI P), .int ea, .int (nI K), .int (nI Hn), .int ym, .int tm, .ref arw, .ref ans, .ref aro, .ref abo, .int (nI Sm), .ref asi, .int sd, .ref asv, .int kt, .int ky, .int (nI ks), .ref akr, .ref akn, .ref aks, .long ha])), (arw, .inl (cI, 15, .inl rw)), (ans, .inl (cI, 20, .inl ns))] sz)) (va_A [(mo, .inr (6, [.ref apg, .int (nI P), .int ea, .int (nI K), .int (nI Hn), .int ym, .int tm, .ref arw, .ref ans, .ref aro, .ref abo, .int (nI Sm), .ref asi, .int sd, .ref asv, .int kt, .int ky, .int (nI ks), .ref akr, .ref akn, .ref aks, .long ha])), (arw, .inl (cI, 15, .inl rw)), (ans, .inl (cI, 20, .inl ns))] sz)) 0 0 (va_A [(mo, .inr (6, [.ref apg, .int (nI P), .int ea, .int (nI K), .int (nI Hn), .int ym, .int tm, .ref arw, .ref ans, .ref aro, .ref abo, .int (nI Sm), .ref asi, .int sd, .ref asv, .int kt, .int ky, .int (nI ks), .ref akr, .ref akn, .ref aks, .long ha])), (arw, .inl (cI, 15, .inl rw)), (ans, .inl (cI, 20, .inl ns))] sz) := by
  refine Met.ofW (cc := cX6_keepVow) (maxL := 2) (ret := none) (by decide) rfl ?_
  intro p e s m args below meth c s₁ B hml hv
  obtain ⟨rfl, hsz, hP, hD0, hE⟩ := hv
  have hx := B.exec
  have hb := B.bytes
  have hr := B.returns
  have hts := atoms_spec (ws := wsX6_keepVow) B.pre
  have hown : s.vm.findClass RX6 = some m.cls := findClass_of_methodNamed B.named
  have hlocks := B.notSynchronized
  subst hsz
  have hD := hD0.self (sz := s.heap.size)
  generalize hAe : va_A [(mo, .inr (6, [.ref apg, .int (nI P), .int ea, .int (nI K), .int (nI Hn), .int ym, .int tm, .ref arw, .ref ans, .ref aro, .ref abo, .int (nI Sm), .ref asi, .int sd, .ref asv, .int kt, .int ky, .int (nI ks), .ref akr, .ref akn, .ref aks, .long ha])), (arw, .inl (cI, 15, .inl rw)), (ans, .inl (cI, 20, .inl ns))] s.heap.size = A at hD ⊢
  have hA : ∀ q : Nat, s.heap.size ≤ q → A q := fun q h => by rw [← hAe]; exact Or.inr h
  have hS : va_S A s.heap s.heap [] := va_S.rf
  have hP : va_P D vwCl [(mo, .inr (6, [.ref apg, .int (nI P), .int ea, .int (nI K), .int (nI Hn), .int ym, .int tm, .ref arw, .ref ans, .ref aro, .ref abo, .int (nI Sm), .ref asi, .int sd, .ref asv, .int kt, .int ky, .int (nI ks), .ref akr, .ref akn, .ref aks, .long ha])), (arw, .inl (cI, 15, .inl rw)), (ans, .inl (cI, 20, .inl ns))] s.heap := hP
  have hD : va_D A [(mo, .inr (6, [.ref apg, .int (nI P), .int ea, .int (nI K), .int (nI Hn), .int ym, .int tm, .ref arw, .ref ans, .ref aro, .ref abo, .int (nI Sm), .ref asi, .int sd, .ref asv, .int kt, .int ky, .int (nI ks), .ref akr, .ref akn, .ref aks, .long ha])), (arw, .inl (cI, 15, .inl rw)), (ans, .inl (cI, 20, .inl ns))] := hD
  have hl := lv_entry ([.ref mo, .int (nI h)]) (n := 2) (Nat.le_of_ble_eq_true rfl)
  rw [lg_entry_eq]
  generalize (lg_sl ([.ref mo, .int (nI h)]) ++ List.replicate (2 - (lg_sl ([.ref mo, .int (nI h)])).length) Slot.unset).toArray = ls at hl ⊢
  have hl : lv_has ls 2 [(0, .ref mo), (1, .int (nI h))] := hl
  have hinX6 : ∀ w ∈ wsX60, w ∈ wsX6_keepVow := fun w h => List.mem_cons_of_mem _ (List.mem_append_right _ h)
  have k_0 := hts (.fieldLink RX6 16 "VowDovesModel" "nests" "[I") (by decide +kernel)
  have k_1 := hts (.fieldLink RX6 13 "VowDovesModel" "rows" "[I") (by decide +kernel)
  refine lv_aload_n hx hb dX6_keepVow_0 rfl (lv_at hl 0 rfl) ?_
  refine va_get (D := D) (ci := 6) (v := .ref ans) (C := RX6) (T := TX6) (N := 22) hx hb hts hinX6 hown hE.1 hP 0 rfl rfl 8 (by decide) k_0 (fun _ h9 => h9) rfl dX6_keepVow_1 ?_
  refine lv_iconst (v := 4) hx hb dX6_keepVow_4 (by decide) ?_
  refine lv_iload_n hx hb dX6_keepVow_5 rfl (lv_at hl 1 rfl) ?_
  refine z_imulN hx hb (a := 4) (b := h) rfl rfl dX6_keepVow_6 ?_
  refine lv_iconst (v := 3) hx hb dX6_keepVow_7 (by decide) ?_
  refine z_iaddN hx hb (a := 4 * h) (b := 3) rfl rfl dX6_keepVow_8 ?_
  refine lv_dup2_11 hx hb dX6_keepVow_9 rfl rfl ?_
  refine z_iald hx hb hE hP 2 rfl (j := (4 * h) + 3) rfl (by omega) (by decide) dX6_keepVow_10 ?_
  refine lv_aload_n hx hb dX6_keepVow_11 rfl (lv_at hl 0 rfl) ?_
  refine va_get (D := D) (ci := 6) (v := .ref arw) (C := RX6) (T := TX6) (N := 22) hx hb hts hinX6 hown hE.1 hP 0 rfl rfl 7 (by decide) k_1 (fun _ h9 => h9) rfl dX6_keepVow_12 ?_
  refine lv_iconst (v := 3) hx hb dX6_keepVow_15 (by decide) ?_
  refine lv_aload_n hx hb dX6_keepVow_16 rfl (lv_at hl 0 rfl) ?_
  refine va_get (D := D) (ci := 6) (v := .ref ans) (C := RX6) (T := TX6) (N := 22) hx hb hts hinX6 hown hE.1 hP 0 rfl rfl 8 (by decide) k_0 (fun _ h9 => h9) rfl dX6_keepVow_17 ?_
  refine lv_iconst (v := 4) hx hb dX6_keepVow_20 (by decide) ?_
  refine lv_iload_n hx hb dX6_keepVow_21 rfl (lv_at hl 1 rfl) ?_
  refine z_imulN hx hb (a := 4) (b := h) rfl rfl dX6_keepVow_22 ?_
  refine lv_iconst (v := 1) hx hb dX6_keepVow_23 (by decide) ?_
  refine z_iaddN hx hb (a := 4 * h) (b := 1) rfl rfl dX6_keepVow_24 ?_
  refine z_iald hx hb hE hP 2 rfl (j := (4 * h) + 1) rfl (by omega) (by decide) dX6_keepVow_25 ?_
  refine z_imulN hx hb (a := 3) (b := k) rfl ek dX6_keepVow_26 ?_
  refine z_iald hx hb hE hP 1 rfl (j := 3 * k) rfl (by omega) (by decide) dX6_keepVow_27 ?_
  refine lv_iconst (v := 2) hx hb dX6_keepVow_28 (by decide) ?_
  refine lv_icmp_ne (tgt := 36) hx hb dX6_keepVow_29 (by decide) (fun c_29 => ?_) (fun c_29 => ?_)
  · refine lv_iconst (v := 1) hx hb dX6_keepVow_36 (by decide) ?_
    refine lv_iadd hx hb dX6_keepVow_37 ?_
    refine z_iast hx hb hE hP hD hS 2 rfl (j := (4 * h) + 3) rfl (by omega) (by decide) dX6_keepVow_38 (fun H locs hP hD hS => ?_)
    have hP : va_P D vwCl [(mo, .inr (6, [.ref apg, .int (nI P), .int ea, .int (nI K), .int (nI Hn), .int ym, .int tm, .ref arw, .ref ans, .ref aro, .ref abo, .int (nI Sm), .ref asi, .int sd, .ref asv, .int kt, .int ky, .int (nI ks), .ref akr, .ref akn, .ref aks, .long ha])), (arw, .inl (cI, 15, .inl rw)), (ans, .inl (cI, 20, .inl (upd ns ((4 * h) + 3) ((ns ((4 * h) + 3)) + 1))))] H := hP
    have hD : va_D A [(mo, .inr (6, [.ref apg, .int (nI P), .int ea, .int (nI K), .int (nI Hn), .int ym, .int tm, .ref arw, .ref ans, .ref aro, .ref abo, .int (nI Sm), .ref asi, .int sd, .ref asv, .int kt, .int ky, .int (nI ks), .ref akr, .ref akn, .ref aks, .long ha])), (arw, .inl (cI, 15, .inl rw)), (ans, .inl (cI, 20, .inl (upd ns ((4 * h) + 3) ((ns ((4 * h) + 3)) + 1))))] := hD
    have hP9 := hP.sub (ws' := [(mo, .inr (6, [.ref apg, .int (nI P), .int ea, .int (nI K), .int (nI Hn), .int ym, .int tm, .ref arw, .ref ans, .ref aro, .ref abo, .int (nI Sm), .ref asi, .int sd, .ref asv, .int kt, .int ky, .int (nI ks), .ref akr, .ref akn, .ref aks, .long ha])), (arw, .inl (cI, 15, .inl rw)), (ans, .inl (cI, 20, .inl (kepM rw ns h k)))]) [0, 1, 2] (by unfold kepM; simp [c_29])
    have hD9 := hD.sub (ws' := [(mo, .inr (6, [.ref apg, .int (nI P), .int ea, .int (nI K), .int (nI Hn), .int ym, .int tm, .ref arw, .ref ans, .ref aro, .ref abo, .int (nI Sm), .ref asi, .int sd, .ref asv, .int kt, .int ky, .int (nI ks), .ref akr, .ref akn, .ref aks, .long ha])), (arw, .inl (cI, 15, .inl rw)), (ans, .inl (cI, 20, .inl (kepM rw ns h k)))]) [0, 1, 2] (by decide) (by unfold kepM; simp [c_29])
    exact W.vret hx hb hr (fun t ht hW => ⟨⟨(), rfl, trivial, by rw [ht]; exact hP9, hD9⟩, hS.F ht⟩) hS.2.2 dX6_keepVow_39
  · refine lv_iconst (v := 0) hx hb dX6_keepVow_32 (by decide) ?_
    refine lv_goto (tgt := 37) hx hb dX6_keepVow_33 (by decide) ?_
    refine lv_iadd hx hb dX6_keepVow_37 ?_
    refine z_iast hx hb hE hP hD hS 2 rfl (j := (4 * h) + 3) rfl (by omega) (by decide) dX6_keepVow_38 (fun H locs hP hD hS => ?_)
    have hP : va_P D vwCl [(mo, .inr (6, [.ref apg, .int (nI P), .int ea, .int (nI K), .int (nI Hn), .int ym, .int tm, .ref arw, .ref ans, .ref aro, .ref abo, .int (nI Sm), .ref asi, .int sd, .ref asv, .int kt, .int ky, .int (nI ks), .ref akr, .ref akn, .ref aks, .long ha])), (arw, .inl (cI, 15, .inl rw)), (ans, .inl (cI, 20, .inl (upd ns ((4 * h) + 3) ((ns ((4 * h) + 3)) + 0))))] H := hP
    have hD : va_D A [(mo, .inr (6, [.ref apg, .int (nI P), .int ea, .int (nI K), .int (nI Hn), .int ym, .int tm, .ref arw, .ref ans, .ref aro, .ref abo, .int (nI Sm), .ref asi, .int sd, .ref asv, .int kt, .int ky, .int (nI ks), .ref akr, .ref akn, .ref aks, .long ha])), (arw, .inl (cI, 15, .inl rw)), (ans, .inl (cI, 20, .inl (upd ns ((4 * h) + 3) ((ns ((4 * h) + 3)) + 0))))] := hD
    have hP9 := hP.sub (ws' := [(mo, .inr (6, [.ref apg, .int (nI P), .int ea, .int (nI K), .int (nI Hn), .int ym, .int tm, .ref arw, .ref ans, .ref aro, .ref abo, .int (nI Sm), .ref asi, .int sd, .ref asv, .int kt, .int ky, .int (nI ks), .ref akr, .ref akn, .ref aks, .long ha])), (arw, .inl (cI, 15, .inl rw)), (ans, .inl (cI, 20, .inl (kepM rw ns h k)))]) [0, 1, 2] (by unfold kepM; simp [c_29])
    have hD9 := hD.sub (ws' := [(mo, .inr (6, [.ref apg, .int (nI P), .int ea, .int (nI K), .int (nI Hn), .int ym, .int tm, .ref arw, .ref ans, .ref aro, .ref abo, .int (nI Sm), .ref asi, .int sd, .ref asv, .int kt, .int ky, .int (nI ks), .ref akr, .ref akn, .ref aks, .long ha])), (arw, .inl (cI, 15, .inl rw)), (ans, .inl (cI, 20, .inl (kepM rw ns h k)))]) [0, 1, 2] (by decide) (by unfold kepM; simp [c_29])
    exact W.vret hx hb hr (fun t ht hW => ⟨⟨(), rfl, trivial, by rw [ht]; exact hP9, hD9⟩, hS.F ht⟩) hS.2.2 dX6_keepVow_39

set_option maxHeartbeats 4000000 in
set_option maxRecDepth 100000 in
theorem c_X6_year (l : Launch) (D : va_G) (cI cZ cA : ClassId) (sz : Nat) (mo : Nat) (apg : Nat) (P : Nat) (ea : Int32) (K : Nat) (Hn : Nat) (ym : Int32) (tm : Int32) (arw : Nat) (ans : Nat) (aro : Nat) (abo : Nat) (Sm : Nat) (asi : Nat) (sd : Int32) (asv : Nat) (kt : Int32) (ky : Int32) (ks : Nat) (akr : Nat) (akn : Nat) (aks : Nat) (ha : Int64) (rw : Nat → Int32) (ns : Nat → Int32) (kept : Int32) (hK : K ≤ 5) (hH : Hn ≤ 5) (ok : letOk ns K Hn) : Met l yX6_year wsX6_year (zr 3) (va_Pc [.ref mo, .int kept] (zPw D cI cZ cA [(mo, .inr (6, [.ref apg, .int (nI P), .int ea, .int (nI K), .int (nI Hn), .int ym, .int tm, .ref arw, .ref ans, .ref aro, .ref abo, .int (nI Sm), .ref asi, .int sd, .ref asv, .int kt, .int ky, .int (nI ks), .ref akr, .ref akn, .ref aks, .long ha])), (arw, .inl (cI, 15, .inl rw)), (ans, .inl (cI, 20, .inl ns))] sz)) (va_Qi (fun (r : Int32) (_ : Unit) => r = (fYearM ns rw Hn ym kept).1) (zB D [(mo, .inr (6, [.ref apg, .int (nI P), .int ea, .int (nI K), .int (nI Hn), .int ((fYearM ns rw Hn ym kept).2.1), .int tm, .ref arw, .ref ans, .ref aro, .ref abo, .int (nI Sm), .ref asi, .int sd, .ref asv, .int kt, .int ky, .int (nI ks), .ref akr, .ref akn, .ref aks, .long ha])), (arw, .inl (cI, 15, .inl ((fYearM ns rw Hn ym kept).2.2.2))), (ans, .inl (cI, 20, .inl ((fYearM ns rw Hn ym kept).2.2.1)))] (va_A [(mo, .inr (6, [.ref apg, .int (nI P), .int ea, .int (nI K), .int (nI Hn), .int ym, .int tm, .ref arw, .ref ans, .ref aro, .ref abo, .int (nI Sm), .ref asi, .int sd, .ref asv, .int kt, .int ky, .int (nI ks), .ref akr, .ref akn, .ref aks, .long ha])), (arw, .inl (cI, 15, .inl rw)), (ans, .inl (cI, 20, .inl ns))] sz)) (va_A [(mo, .inr (6, [.ref apg, .int (nI P), .int ea, .int (nI K), .int (nI Hn), .int ym, .int tm, .ref arw, .ref ans, .ref aro, .ref abo, .int (nI Sm), .ref asi, .int sd, .ref asv, .int kt, .int ky, .int (nI ks), .ref akr, .ref akn, .ref aks, .long ha])), (arw, .inl (cI, 15, .inl rw)), (ans, .inl (cI, 20, .inl ns))] sz)) 0 0 (va_A [(mo, .inr (6, [.ref apg, .int (nI P), .int ea, .int (nI K), .int (nI Hn), .int ym, .int tm, .ref arw, .ref ans, .ref aro, .ref abo, .int (nI Sm), .ref asi, .int sd, .ref asv, .int kt, .int ky, .int (nI ks), .ref akr, .ref akn, .ref aks, .long ha])), (arw, .inl (cI, 15, .inl rw)), (ans, .inl (cI, 20, .inl ns))] sz) := by
  refine Met.ofW (cc := cX6_year) (maxL := 5) (ret := (some .int)) (by decide) rfl ?_
  intro p e s m args below meth c s₁ B hml hv
  obtain ⟨rfl, hsz, hP, hD0, hE⟩ := hv
  have hx := B.exec
  have hb := B.bytes
  have hr := B.returns
  have hts := atoms_spec (ws := wsX6_year) B.pre
  have hown : s.vm.findClass RX6 = some m.cls := findClass_of_methodNamed B.named
  have hlocks := B.notSynchronized
  subst hsz
  have hD := hD0.self (sz := s.heap.size)
  generalize hAe : va_A [(mo, .inr (6, [.ref apg, .int (nI P), .int ea, .int (nI K), .int (nI Hn), .int ym, .int tm, .ref arw, .ref ans, .ref aro, .ref abo, .int (nI Sm), .ref asi, .int sd, .ref asv, .int kt, .int ky, .int (nI ks), .ref akr, .ref akn, .ref aks, .long ha])), (arw, .inl (cI, 15, .inl rw)), (ans, .inl (cI, 20, .inl ns))] s.heap.size = A at hD ⊢
  have hA : ∀ q : Nat, s.heap.size ≤ q → A q := fun q h => by rw [← hAe]; exact Or.inr h
  have hS : va_S A s.heap s.heap [] := va_S.rf
  have hP : va_P D vwCl [(mo, .inr (6, [.ref apg, .int (nI P), .int ea, .int (nI K), .int (nI Hn), .int ym, .int tm, .ref arw, .ref ans, .ref aro, .ref abo, .int (nI Sm), .ref asi, .int sd, .ref asv, .int kt, .int ky, .int (nI ks), .ref akr, .ref akn, .ref aks, .long ha])), (arw, .inl (cI, 15, .inl rw)), (ans, .inl (cI, 20, .inl ns))] s.heap := hP
  have hD : va_D A [(mo, .inr (6, [.ref apg, .int (nI P), .int ea, .int (nI K), .int (nI Hn), .int ym, .int tm, .ref arw, .ref ans, .ref aro, .ref abo, .int (nI Sm), .ref asi, .int sd, .ref asv, .int kt, .int ky, .int (nI ks), .ref akr, .ref akn, .ref aks, .long ha])), (arw, .inl (cI, 15, .inl rw)), (ans, .inl (cI, 20, .inl ns))] := hD
  have hl := lv_entry ([.ref mo, .int kept]) (n := 5) (Nat.le_of_ble_eq_true rfl)
  rw [lg_entry_eq]
  generalize (lg_sl ([.ref mo, .int kept]) ++ List.replicate (5 - (lg_sl ([.ref mo, .int kept])).length) Slot.unset).toArray = ls at hl ⊢
  have hl : lv_has ls 5 [(0, .ref mo), (1, .int kept)] := hl
  have hinX6 : ∀ w ∈ wsX60, w ∈ wsX6_year := fun w h => List.mem_cons_of_mem _ (List.mem_append_right _ h)
  have k_0 := hts (.fieldLink RX6 75 "VowDovesModel" "holes" "I") (by decide +kernel)
  have k_1 := hts (.fieldLink RX6 82 "VowDovesModel" "years" "I") (by decide +kernel)
  have k_2 := hts (.fieldLink RX6 16 "VowDovesModel" "nests" "[I") (by decide +kernel)
  have k_3 := hts (.fieldLink RX6 13 "VowDovesModel" "rows" "[I") (by decide +kernel)
  refine lv_iload_n hx hb dX6_year_0 rfl (lv_at hl 1 rfl) ?_
  refine lv_i2l (v := (kept : Int32).toInt64) hx hb dX6_year_1 rfl ?_
  refine lv_lconst (v := 0) hx hb dX6_year_2 (by decide) ?_
  refine lv_iconst (v := 1) hx hb dX6_year_3 (by decide) ?_
  refine lv_aload_n hx hb dX6_year_4 rfl (lv_at hl 0 rfl) ?_
  refine va_get (D := D) (ci := 6) (v := .int (nI Hn)) (C := RX6) (T := TX6) (N := 22) hx hb hts hinX6 hown hE.1 hP 0 rfl rfl 4 (by decide) k_0 (fun _ h9 => h9) rfl dX6_year_5 ?_
  refine lv_ishl hx hb dX6_year_8 ?_
  refine lv_iconst (v := 1) hx hb dX6_year_9 (by decide) ?_
  refine lv_isub hx hb dX6_year_10 ?_
  refine lv_i2l (v := ((1 <<< ((nI Hn) &&& 31)) - 1 : Int32).toInt64) hx hb dX6_year_11 rfl ?_
  refine z_roSi (As := [.long ((kept : Int32).toInt64), .long 0, .long (((1 <<< ((nI Hn) &&& 31)) - 1 : Int32).toInt64)]) (rest := []) ⟨hx, hb, hml, hown, hts⟩ (c_X6_in l D cI cZ cA ((kept : Int32).toInt64) 0 (((1 <<< ((nI Hn) &&& 31)) - 1 : Int32).toInt64) ) (va_cwS 3 hts gX6_year_X6_in rfl rfl rfl (by decide +kernel) ⟨Nat.le_of_ble_eq_true rfl, Nat.le_of_ble_eq_true rfl⟩) hE hP [] rfl rfl hl.1 rfl (Nat.le_of_ble_eq_true rfl) dX6_year_12 ⟨Nat.zero_le _, Nat.zero_le _⟩ ?_
  refine lv_if_ne (tgt := 21) hx hb dX6_year_15 (by decide) (fun c_15 => ?_) (fun c_15 => ?_)
  · have c_15 := zb_1 c_15
    rw [zin (lo := 0) (by decide) rfl] at c_15
    refine lv_aload_n hx hb dX6_year_21 rfl (lv_at hl 0 rfl) ?_
    refine z_roVi (As := []) (rest := []) ⟨hx, hb, hml, hown, hts⟩ (c_X6_lacks l D cI cZ cA mo apg P ea K Hn ym tm arw ans aro abo Sm asi sd asv kt ky ks akr akn aks ha (by first | assumption | omega)) (cwV 0 hts gX6_year_X6_lacks rfl rfl rfl (by decide +kernel) ⟨Nat.le_of_ble_eq_true rfl, Nat.le_of_ble_eq_true rfl⟩) hE hP [0] rfl 0 6 rfl rfl rfl hl.1 rfl (Nat.le_of_ble_eq_true rfl) dX6_year_22 ⟨Nat.zero_le _, Nat.zero_le _⟩ ?_
    refine lv_if_eq (tgt := 31) hx hb dX6_year_25 (by decide) (fun c_25 => ?_) (fun c_25 => ?_)
    · have c_25 := zb_0 c_25
      refine lv_aload_n hx hb dX6_year_31 rfl (lv_at hl 0 rfl) ?_
      refine va_get (D := D) (ci := 6) (v := .int ym) (C := RX6) (T := TX6) (N := 22) hx hb hts hinX6 hown hE.1 hP 0 rfl rfl 5 (by decide) k_1 (fun _ h9 => h9) rfl dX6_year_32 ?_
      refine lv_bipush (v := 99) hx hb dX6_year_35 (by decide) ?_
      refine lv_icmp_ne (tgt := 43) hx hb dX6_year_37 (by decide) (fun c_37 => ?_) (fun c_37 => ?_)
      · refine lv_aload_n hx hb dX6_year_43 rfl (lv_at hl 0 rfl) ?_
        refine lv_dup hx hb dX6_year_44 rfl ?_
        refine va_get (D := D) (ci := 6) (v := .int ym) (C := RX6) (T := TX6) (N := 22) hx hb hts hinX6 hown hE.1 hP 0 rfl rfl 5 (by decide) k_1 (fun _ h9 => h9) rfl dX6_year_45 ?_
        refine lv_iconst (v := 1) hx hb dX6_year_48 (by decide) ?_
        refine lv_iadd hx hb dX6_year_49 ?_
        refine va_put (D := D) (ci := 6) (v := .int (ym + 1)) (ty := .int) (C := RX6) (T := TX6) (N := 22) hx hb hts hinX6 tyX6 tyX6_ok nmX6 hown hE.1 hP hD hS 0 rfl rfl 5 (by decide) k_1 (fun _ h9 => h9) rfl (by decide +kernel) rfl rfl (Nat.le_of_ble_eq_true rfl) dX6_year_50 (fun H locs hP hD hS => ?_)
        have hP : va_P D vwCl [(mo, .inr (6, [.ref apg, .int (nI P), .int ea, .int (nI K), .int (nI Hn), .int (ym + 1), .int tm, .ref arw, .ref ans, .ref aro, .ref abo, .int (nI Sm), .ref asi, .int sd, .ref asv, .int kt, .int ky, .int (nI ks), .ref akr, .ref akn, .ref aks, .long ha])), (arw, .inl (cI, 15, .inl rw)), (ans, .inl (cI, 20, .inl ns))] H := hP
        have hD : va_D A [(mo, .inr (6, [.ref apg, .int (nI P), .int ea, .int (nI K), .int (nI Hn), .int (ym + 1), .int tm, .ref arw, .ref ans, .ref aro, .ref abo, .int (nI Sm), .ref asi, .int sd, .ref asv, .int kt, .int ky, .int (nI ks), .ref akr, .ref akn, .ref aks, .long ha])), (arw, .inl (cI, 15, .inl rw)), (ans, .inl (cI, 20, .inl ns))] := hD
        refine lv_iconst (v := 0) hx hb dX6_year_53 (by decide) ?_
        refine lv_istore_n (lv' := [(2, .int 0), (0, .ref mo), (1, .int kept)]) hx hb dX6_year_54 rfl hl (by decide) rfl (fun ls hl => ?_)
        refine lv_iconst (v := 0) hx hb dX6_year_55 (by decide) ?_
        refine lv_istore_n (lv' := [(3, .int 0), (2, .int 0), (0, .ref mo), (1, .int kept)]) hx hb dX6_year_56 rfl hl (by decide) rfl (fun ls hl => ?_)
        have hc57_1 : ∀ (n : Nat) (i : Nat), (i ≤ Hn) → (Hn + 1 ≤ i + n) → ∀ (w2 : Int32), w2 = (yN kept ns rw i).1 → ∀ (w3 : Int32), w3 = nI i → ∀ (wn : Nat → Int32), wn = (yN kept ns rw i).2.1 → ∀ (wr : Nat → Int32), wr = (yN kept ns rw i).2.2 → ∀ (H : Heap) (locs : List Loc), va_P D vwCl [(mo, .inr (6, [.ref apg, .int (nI P), .int ea, .int (nI K), .int (nI Hn), .int (ym + 1), .int tm, .ref arw, .ref ans, .ref aro, .ref abo, .int (nI Sm), .ref asi, .int sd, .ref asv, .int kt, .int ky, .int (nI ks), .ref akr, .ref akn, .ref aks, .long ha])), (arw, .inl (cI, 15, .inl wr)), (ans, .inl (cI, 20, .inl wn))] H → va_D A [(mo, .inr (6, [.ref apg, .int (nI P), .int ea, .int (nI K), .int (nI Hn), .int (ym + 1), .int tm, .ref arw, .ref ans, .ref aro, .ref abo, .int (nI Sm), .ref asi, .int sd, .ref asv, .int kt, .int ky, .int (nI ks), .ref akr, .ref akn, .ref aks, .long ha])), (arw, .inl (cI, 15, .inl wr)), (ans, .inl (cI, 20, .inl wn))] → va_S A s.heap H locs → ∀ (ls : Array Slot), lv_has ls 5 [(3, .int w3), (2, .int w2), (0, .ref mo), (1, .int kept)] → W p l e (headSpec wsX6_year (zr 3)).room s m ([.ref mo, .int kept] : List Value).toArray below meth c H locs 0 0 (MQ below (va_Qi (fun (r : Int32) (_ : Unit) => r = (fYearM ns rw Hn ym kept).1) (zB D [(mo, .inr (6, [.ref apg, .int (nI P), .int ea, .int (nI K), .int (nI Hn), .int ((fYearM ns rw Hn ym kept).2.1), .int tm, .ref arw, .ref ans, .ref aro, .ref abo, .int (nI Sm), .ref asi, .int sd, .ref asv, .int kt, .int ky, .int (nI ks), .ref akr, .ref akn, .ref aks, .long ha])), (arw, .inl (cI, 15, .inl ((fYearM ns rw Hn ym kept).2.2.2))), (ans, .inl (cI, 20, .inl ((fYearM ns rw Hn ym kept).2.2.1)))] A) A) ([.ref mo, .int kept] : List Value).toArray s 0 0 A) (F0 m 57 ls []) := by
          intro n
          induction n with
          | zero => intro i hi hfu; exact absurd hfu (by omega)
          | succ n ihhc57_1 =>
            intro i hi hfu w2 ew2 w3 ew3 wn ewn wr ewr H locs hP hD hS ls hl
            subst ew2
            subst ew3
            subst ewn
            subst ewr
            have oki := letOk_yN (kept := kept) (rw := rw) ok i
            refine lv_iload_n hx hb dX6_year_57 rfl (lv_at hl 0 rfl) ?_
            refine lv_aload_n hx hb dX6_year_58 rfl (lv_at hl 2 rfl) ?_
            refine va_get (D := D) (ci := 6) (v := .int (nI Hn)) (C := RX6) (T := TX6) (N := 22) hx hb hts hinX6 hown hE.1 hP 0 rfl rfl 4 (by decide) k_0 (fun _ h9 => h9) rfl dX6_year_59 ?_
            refine lv_icmp_ge (tgt := 146) hx hb dX6_year_62 (by decide) (fun c_62 => ?_) (fun c_62 => ?_)
            · have n_62 := zn_le (a := Hn) (b := i) rfl rfl c_62 (by omega) (by omega)
              obtain rfl : Hn = i := by omega
              refine lv_iload_n hx hb dX6_year_146 rfl (lv_at hl 1 rfl) ?_
              have e9 : (fYearM ns rw Hn ym kept) = ((yN kept ns rw Hn).1, ym + 1, (yN kept ns rw Hn).2.1, (yN kept ns rw Hn).2.2) := (by unfold fYearM; grind)
              have hP9 := hP.sub (ws' := [(mo, .inr (6, [.ref apg, .int (nI P), .int ea, .int (nI K), .int (nI Hn), .int ((fYearM ns rw Hn ym kept).2.1), .int tm, .ref arw, .ref ans, .ref aro, .ref abo, .int (nI Sm), .ref asi, .int sd, .ref asv, .int kt, .int ky, .int (nI ks), .ref akr, .ref akn, .ref aks, .long ha])), (arw, .inl (cI, 15, .inl ((fYearM ns rw Hn ym kept).2.2.2))), (ans, .inl (cI, 20, .inl ((fYearM ns rw Hn ym kept).2.2.1)))]) [0, 1, 2] (by rw [e9]; try rfl)
              have hD9 := hD.sub (ws' := [(mo, .inr (6, [.ref apg, .int (nI P), .int ea, .int (nI K), .int (nI Hn), .int ((fYearM ns rw Hn ym kept).2.1), .int tm, .ref arw, .ref ans, .ref aro, .ref abo, .int (nI Sm), .ref asi, .int sd, .ref asv, .int kt, .int ky, .int (nI ks), .ref akr, .ref akn, .ref aks, .long ha])), (arw, .inl (cI, 15, .inl ((fYearM ns rw Hn ym kept).2.2.2))), (ans, .inl (cI, 20, .inl ((fYearM ns rw Hn ym kept).2.2.1)))]) [0, 1, 2] (by decide) (by rw [e9]; try rfl)
              exact W.iret (v := (yN kept ns rw Hn).1) hx hb hr (fun t ht hW => ⟨⟨((yN kept ns rw Hn).1), (), rfl, (by rw [e9]; try rfl), by rw [ht]; exact hP9, hD9⟩, hS.F ht⟩) hS.2.2 dX6_year_147
            · have n_62 := zn_nle (a := Hn) (b := i) rfl rfl c_62 (by omega) (by omega)
              refine lv_aload_n hx hb dX6_year_65 rfl (lv_at hl 2 rfl) ?_
              refine va_get (D := D) (ci := 6) (v := .ref ans) (C := RX6) (T := TX6) (N := 22) hx hb hts hinX6 hown hE.1 hP 0 rfl rfl 8 (by decide) k_2 (fun _ h9 => h9) rfl dX6_year_66 ?_
              refine lv_iconst (v := 4) hx hb dX6_year_69 (by decide) ?_
              refine lv_iload_n hx hb dX6_year_70 rfl (lv_at hl 0 rfl) ?_
              refine z_imulN hx hb (a := 4) (b := i) rfl rfl dX6_year_71 ?_
              refine lv_iconst (v := 1) hx hb dX6_year_72 (by decide) ?_
              refine z_iaddN hx hb (a := 4 * i) (b := 1) rfl rfl dX6_year_73 ?_
              refine z_iald hx hb hE hP 2 rfl (j := (4 * i) + 1) rfl (by omega) (by decide) dX6_year_74 ?_
              refine lv_istore (lv' := [(4, .int (((yN kept ns rw i).2.1) ((4 * i) + 1))), (3, .int (nI i)), (2, .int ((yN kept ns rw i).1)), (0, .ref mo), (1, .int kept)]) hx hb dX6_year_75 hl (by decide) rfl (fun ls hl => ?_)
              refine lv_iload hx hb dX6_year_77 (lv_at hl 0 rfl) ?_
              refine lv_iconst (v := (-1)) hx hb dX6_year_79 (by decide) ?_
              refine lv_icmp_eq (tgt := 103) hx hb dX6_year_80 (by decide) (fun c_80 => ?_) (fun c_80 => ?_)
              · refine lv_iload hx hb dX6_year_103 (lv_at hl 0 rfl) ?_
                refine lv_iconst (v := (-1)) hx hb dX6_year_105 (by decide) ?_
                refine lv_icmp_eq (tgt := 140) hx hb dX6_year_106 (by decide) (fun c_106 => ?_) (fun c_106 => ?_)
                · refine lv_iinc (v := nI (i + 1)) (lv' := [(3, .int (nI (i + 1))), (4, .int (((yN kept ns rw i).2.1) ((4 * i) + 1))), (2, .int ((yN kept ns rw i).1)), (0, .ref mo), (1, .int kept)]) hx hb dX6_year_140 hl (k := 1) rfl (nI_add i 1) (by decide) rfl (fun ls hl => ?_)
                  refine lv_goto (tgt := 57) hx hb dX6_year_143 (by decide) ?_
                  exact ihhc57_1 (i + 1) (by omega) (by omega) ((yN kept ns rw i).1) (by rw [yN]; unfold ySt; simp [c_80]) (nI (i + 1)) rfl ((yN kept ns rw i).2.1) (by rw [yN]; unfold ySt empM; simp [c_80]) ((yN kept ns rw i).2.2) (by rw [yN]; unfold ySt; simp [c_80]) _ _ (hP.sub [0, 1, 2] rfl) (hD.sub [0, 1, 2] (by decide) rfl) hS ls (lv_sub hl [0, 2, 3, 4] rfl)
                · exact absurd c_80 c_106
              · obtain ⟨k0, hk0, ek⟩ := (oki i (by omega)).resolve_left c_80
                have tk : ((yN kept ns rw i).2.1 (4 * i + 1)).toNatClampNeg = k0 := by rw [ek, nI_clamp (by omega)]
                refine lv_iload_n hx hb dX6_year_83 rfl (lv_at hl 4 rfl) ?_
                refine lv_iload_n hx hb dX6_year_84 rfl (lv_at hl 1 rfl) ?_
                refine lv_ishr hx hb dX6_year_85 ?_
                refine lv_iconst (v := 1) hx hb dX6_year_86 (by decide) ?_
                refine lv_iand hx hb dX6_year_87 ?_
                refine lv_iconst (v := 1) hx hb dX6_year_88 (by decide) ?_
                refine lv_icmp_ne (tgt := 103) hx hb dX6_year_89 (by decide) (fun c_89 => ?_) (fun c_89 => ?_)
                · refine lv_iload hx hb dX6_year_103 (lv_at hl 0 rfl) ?_
                  refine lv_iconst (v := (-1)) hx hb dX6_year_105 (by decide) ?_
                  refine lv_icmp_eq (tgt := 140) hx hb dX6_year_106 (by decide) (fun c_106 => ?_) (fun c_106 => ?_)
                  · exact absurd c_106 c_80
                  · refine lv_aload_n hx hb dX6_year_109 rfl (lv_at hl 3 rfl) ?_
                    refine va_get (D := D) (ci := 6) (v := .ref arw) (C := RX6) (T := TX6) (N := 22) hx hb hts hinX6 hown hE.1 hP 0 rfl rfl 7 (by decide) k_3 (fun _ h9 => h9) rfl dX6_year_110 ?_
                    refine lv_iconst (v := 3) hx hb dX6_year_113 (by decide) ?_
                    refine lv_iload hx hb dX6_year_114 (lv_at hl 0 rfl) ?_
                    refine z_imulN hx hb (a := 3) (b := k0) rfl ek dX6_year_116 ?_
                    refine lv_iconst (v := 2) hx hb dX6_year_117 (by decide) ?_
                    refine z_iaddN hx hb (a := 3 * k0) (b := 2) rfl rfl dX6_year_118 ?_
                    refine lv_dup2_11 hx hb dX6_year_119 rfl rfl ?_
                    refine z_iald hx hb hE hP 1 rfl (j := (3 * k0) + 2) rfl (by omega) (by decide) dX6_year_120 ?_
                    refine lv_iconst (v := 1) hx hb dX6_year_121 (by decide) ?_
                    refine lv_iadd hx hb dX6_year_122 ?_
                    refine z_iast hx hb hE hP hD hS 1 rfl (j := (3 * k0) + 2) rfl (by omega) (by decide) dX6_year_123 (fun H locs hP hD hS => ?_)
                    have hP : va_P D vwCl [(mo, .inr (6, [.ref apg, .int (nI P), .int ea, .int (nI K), .int (nI Hn), .int (ym + 1), .int tm, .ref arw, .ref ans, .ref aro, .ref abo, .int (nI Sm), .ref asi, .int sd, .ref asv, .int kt, .int ky, .int (nI ks), .ref akr, .ref akn, .ref aks, .long ha])), (arw, .inl (cI, 15, .inl (upd ((yN kept ns rw i).2.2) ((3 * k0) + 2) ((((yN kept ns rw i).2.2) ((3 * k0) + 2)) + 1)))), (ans, .inl (cI, 20, .inl ((yN kept ns rw i).2.1)))] H := hP
                    have hD : va_D A [(mo, .inr (6, [.ref apg, .int (nI P), .int ea, .int (nI K), .int (nI Hn), .int (ym + 1), .int tm, .ref arw, .ref ans, .ref aro, .ref abo, .int (nI Sm), .ref asi, .int sd, .ref asv, .int kt, .int ky, .int (nI ks), .ref akr, .ref akn, .ref aks, .long ha])), (arw, .inl (cI, 15, .inl (upd ((yN kept ns rw i).2.2) ((3 * k0) + 2) ((((yN kept ns rw i).2.2) ((3 * k0) + 2)) + 1)))), (ans, .inl (cI, 20, .inl ((yN kept ns rw i).2.1)))] := hD
                    refine lv_aload_n hx hb dX6_year_124 rfl (lv_at hl 3 rfl) ?_
                    refine lv_iload_n hx hb dX6_year_125 rfl (lv_at hl 1 rfl) ?_
                    refine z_rwVv (As := [.int (nI i)]) (rest := []) (wr := [(arw, .inl (cI, 15, .inl (upd ((yN kept ns rw i).2.2) ((3 * k0) + 2) ((((yN kept ns rw i).2.2) ((3 * k0) + 2)) + 1))))]) (w1 := [(mo, .inr (6, [.ref apg, .int (nI P), .int ea, .int (nI K), .int (nI Hn), .int (ym + 1), .int tm, .ref arw, .ref ans, .ref aro, .ref abo, .int (nI Sm), .ref asi, .int sd, .ref asv, .int kt, .int ky, .int (nI ks), .ref akr, .ref akn, .ref aks, .long ha])), (ans, .inl (cI, 20, .inl (upd (upd (upd ((yN kept ns rw i).2.1) (4 * i + 1) (-1)) (4 * i + 2) 0) (4 * i + 3) 0)))]) ⟨hx, hb, hml, hown, hts⟩ (c_X6_empty l D cI cZ cA _ mo apg P ea K Hn (ym + 1) tm arw ans aro abo Sm asi sd asv kt ky ks akr akn aks ha ((yN kept ns rw i).2.1) i (by first | assumption | omega)) (cwV 1 hts gX6_year_X6_empty rfl rfl rfl (by decide +kernel) ⟨Nat.le_of_ble_eq_true rfl, Nat.le_of_ble_eq_true rfl⟩) hE hP hD hS hA [0, 2] [1] rfl rfl rfl (by decide) (by decide) (by decide) 0 6 rfl rfl rfl hl.1 rfl (Nat.le_of_ble_eq_true rfl) dX6_year_126 ⟨Nat.zero_le _, Nat.zero_le _⟩ (fun H locs hP hD hS => ?_)
                    have hP : va_P D vwCl [(arw, .inl (cI, 15, .inl (upd ((yN kept ns rw i).2.2) ((3 * k0) + 2) ((((yN kept ns rw i).2.2) ((3 * k0) + 2)) + 1)))), (mo, .inr (6, [.ref apg, .int (nI P), .int ea, .int (nI K), .int (nI Hn), .int (ym + 1), .int tm, .ref arw, .ref ans, .ref aro, .ref abo, .int (nI Sm), .ref asi, .int sd, .ref asv, .int kt, .int ky, .int (nI ks), .ref akr, .ref akn, .ref aks, .long ha])), (ans, .inl (cI, 20, .inl (upd (upd (upd ((yN kept ns rw i).2.1) (4 * i + 1) (-1)) (4 * i + 2) 0) (4 * i + 3) 0)))] H := hP
                    have hD : va_D A [(arw, .inl (cI, 15, .inl (upd ((yN kept ns rw i).2.2) ((3 * k0) + 2) ((((yN kept ns rw i).2.2) ((3 * k0) + 2)) + 1)))), (mo, .inr (6, [.ref apg, .int (nI P), .int ea, .int (nI K), .int (nI Hn), .int (ym + 1), .int tm, .ref arw, .ref ans, .ref aro, .ref abo, .int (nI Sm), .ref asi, .int sd, .ref asv, .int kt, .int ky, .int (nI ks), .ref akr, .ref akn, .ref aks, .long ha])), (ans, .inl (cI, 20, .inl (upd (upd (upd ((yN kept ns rw i).2.1) (4 * i + 1) (-1)) (4 * i + 2) 0) (4 * i + 3) 0)))] := hD
                    refine lv_aload_n hx hb dX6_year_129 rfl (lv_at hl 3 rfl) ?_
                    refine va_get (D := D) (ci := 6) (v := .ref ans) (C := RX6) (T := TX6) (N := 22) hx hb hts hinX6 hown hE.1 hP 1 rfl rfl 8 (by decide) k_2 (fun _ h9 => h9) rfl dX6_year_130 ?_
                    refine lv_iconst (v := 4) hx hb dX6_year_133 (by decide) ?_
                    refine lv_iload_n hx hb dX6_year_134 rfl (lv_at hl 1 rfl) ?_
                    refine z_imulN hx hb (a := 4) (b := i) rfl rfl dX6_year_135 ?_
                    refine lv_iconst (v := 2) hx hb dX6_year_136 (by decide) ?_
                    refine z_iaddN hx hb (a := 4 * i) (b := 2) rfl rfl dX6_year_137 ?_
                    refine lv_iconst (v := 2) hx hb dX6_year_138 (by decide) ?_
                    refine z_iast hx hb hE hP hD hS 2 rfl (j := (4 * i) + 2) rfl (by omega) (by decide) dX6_year_139 (fun H locs hP hD hS => ?_)
                    have hP : va_P D vwCl [(arw, .inl (cI, 15, .inl (upd ((yN kept ns rw i).2.2) ((3 * k0) + 2) ((((yN kept ns rw i).2.2) ((3 * k0) + 2)) + 1)))), (mo, .inr (6, [.ref apg, .int (nI P), .int ea, .int (nI K), .int (nI Hn), .int (ym + 1), .int tm, .ref arw, .ref ans, .ref aro, .ref abo, .int (nI Sm), .ref asi, .int sd, .ref asv, .int kt, .int ky, .int (nI ks), .ref akr, .ref akn, .ref aks, .long ha])), (ans, .inl (cI, 20, .inl (upd (upd (upd (upd ((yN kept ns rw i).2.1) (4 * i + 1) (-1)) (4 * i + 2) 0) (4 * i + 3) 0) ((4 * i) + 2) 2)))] H := hP
                    have hD : va_D A [(arw, .inl (cI, 15, .inl (upd ((yN kept ns rw i).2.2) ((3 * k0) + 2) ((((yN kept ns rw i).2.2) ((3 * k0) + 2)) + 1)))), (mo, .inr (6, [.ref apg, .int (nI P), .int ea, .int (nI K), .int (nI Hn), .int (ym + 1), .int tm, .ref arw, .ref ans, .ref aro, .ref abo, .int (nI Sm), .ref asi, .int sd, .ref asv, .int kt, .int ky, .int (nI ks), .ref akr, .ref akn, .ref aks, .long ha])), (ans, .inl (cI, 20, .inl (upd (upd (upd (upd ((yN kept ns rw i).2.1) (4 * i + 1) (-1)) (4 * i + 2) 0) (4 * i + 3) 0) ((4 * i) + 2) 2)))] := hD
                    refine lv_iinc (v := nI (i + 1)) (lv' := [(3, .int (nI (i + 1))), (4, .int (((yN kept ns rw i).2.1) ((4 * i) + 1))), (2, .int ((yN kept ns rw i).1)), (0, .ref mo), (1, .int kept)]) hx hb dX6_year_140 hl (k := 1) rfl (nI_add i 1) (by decide) rfl (fun ls hl => ?_)
                    refine lv_goto (tgt := 57) hx hb dX6_year_143 (by decide) ?_
                    exact ihhc57_1 (i + 1) (by omega) (by omega) ((yN kept ns rw i).1) (by rw [yN]; unfold ySt; simp [c_80, c_89, tk]) (nI (i + 1)) rfl (upd (upd (upd (upd ((yN kept ns rw i).2.1) (4 * i + 1) (-1)) (4 * i + 2) 0) (4 * i + 3) 0) ((4 * i) + 2) 2) (by rw [yN]; unfold ySt empM; simp [c_80, c_89, tk]) (upd ((yN kept ns rw i).2.2) ((3 * k0) + 2) ((((yN kept ns rw i).2.2) ((3 * k0) + 2)) + 1)) (by rw [yN]; unfold ySt; simp [c_80, c_89, tk]) _ _ (hP.sub [1, 0, 2] rfl) (hD.sub [1, 0, 2] (by decide) rfl) hS ls (lv_sub hl [0, 2, 3, 4] rfl)
                · refine lv_aload_n hx hb dX6_year_92 rfl (lv_at hl 3 rfl) ?_
                  refine lv_iload_n hx hb dX6_year_93 rfl (lv_at hl 1 rfl) ?_
                  refine z_rwVv (As := [.int (nI i)]) (rest := []) (wr := []) (w1 := [(mo, .inr (6, [.ref apg, .int (nI P), .int ea, .int (nI K), .int (nI Hn), .int (ym + 1), .int tm, .ref arw, .ref ans, .ref aro, .ref abo, .int (nI Sm), .ref asi, .int sd, .ref asv, .int kt, .int ky, .int (nI ks), .ref akr, .ref akn, .ref aks, .long ha])), (arw, .inl (cI, 15, .inl ((yN kept ns rw i).2.2))), (ans, .inl (cI, 20, .inl (kepM ((yN kept ns rw i).2.2) ((yN kept ns rw i).2.1) i k0)))]) ⟨hx, hb, hml, hown, hts⟩ (c_X6_keepVow l D cI cZ cA _ mo apg P ea K Hn (ym + 1) tm arw ans aro abo Sm asi sd asv kt ky ks akr akn aks ha ((yN kept ns rw i).2.2) ((yN kept ns rw i).2.1) i k0 (by omega) (by omega) ek) (cwV 1 hts gX6_year_X6_keepVow rfl rfl rfl (by decide +kernel) ⟨Nat.le_of_ble_eq_true rfl, Nat.le_of_ble_eq_true rfl⟩) hE hP hD hS hA [0, 1, 2] [] rfl rfl rfl (by decide) (by decide) (by decide) 0 6 rfl rfl rfl hl.1 rfl (Nat.le_of_ble_eq_true rfl) dX6_year_94 ⟨Nat.zero_le _, Nat.zero_le _⟩ (fun H locs hP hD hS => ?_)
                  have hP : va_P D vwCl [(mo, .inr (6, [.ref apg, .int (nI P), .int ea, .int (nI K), .int (nI Hn), .int (ym + 1), .int tm, .ref arw, .ref ans, .ref aro, .ref abo, .int (nI Sm), .ref asi, .int sd, .ref asv, .int kt, .int ky, .int (nI ks), .ref akr, .ref akn, .ref aks, .long ha])), (arw, .inl (cI, 15, .inl ((yN kept ns rw i).2.2))), (ans, .inl (cI, 20, .inl (kepM ((yN kept ns rw i).2.2) ((yN kept ns rw i).2.1) i k0)))] H := hP
                  have hD : va_D A [(mo, .inr (6, [.ref apg, .int (nI P), .int ea, .int (nI K), .int (nI Hn), .int (ym + 1), .int tm, .ref arw, .ref ans, .ref aro, .ref abo, .int (nI Sm), .ref asi, .int sd, .ref asv, .int kt, .int ky, .int (nI ks), .ref akr, .ref akn, .ref aks, .long ha])), (arw, .inl (cI, 15, .inl ((yN kept ns rw i).2.2))), (ans, .inl (cI, 20, .inl (kepM ((yN kept ns rw i).2.2) ((yN kept ns rw i).2.1) i k0)))] := hD
                  refine lv_iinc (v := ((yN kept ns rw i).1) + 1) (lv' := [(2, .int (((yN kept ns rw i).1) + 1)), (4, .int (((yN kept ns rw i).2.1) ((4 * i) + 1))), (3, .int (nI i)), (0, .ref mo), (1, .int kept)]) hx hb dX6_year_97 hl (k := 2) rfl rfl (by decide) rfl (fun ls hl => ?_)
                  refine lv_goto (tgt := 140) hx hb dX6_year_100 (by decide) ?_
                  refine lv_iinc (v := nI (i + 1)) (lv' := [(3, .int (nI (i + 1))), (2, .int (((yN kept ns rw i).1) + 1)), (4, .int (((yN kept ns rw i).2.1) ((4 * i) + 1))), (0, .ref mo), (1, .int kept)]) hx hb dX6_year_140 hl (k := 2) rfl (nI_add i 1) (by decide) rfl (fun ls hl => ?_)
                  refine lv_goto (tgt := 57) hx hb dX6_year_143 (by decide) ?_
                  exact ihhc57_1 (i + 1) (by omega) (by omega) (((yN kept ns rw i).1) + 1) (by rw [yN]; unfold ySt; simp [c_80, c_89, tk]) (nI (i + 1)) rfl (kepM ((yN kept ns rw i).2.2) ((yN kept ns rw i).2.1) i k0) (by rw [yN]; unfold ySt empM; simp [c_80, c_89, tk]) ((yN kept ns rw i).2.2) (by rw [yN]; unfold ySt; simp [c_80, c_89, tk]) _ _ (hP.sub [0, 1, 2] rfl) (hD.sub [0, 1, 2] (by decide) rfl) hS ls (lv_sub hl [0, 1, 3, 4] rfl)
        exact hc57_1 (Hn + 1) 0 (by omega) (by omega) 0 rfl 0 rfl ns rfl rw rfl _ _ (hP.sub [0, 1, 2] rfl) (hD.sub [0, 1, 2] (by decide) rfl) hS ls (lv_sub hl [0, 1, 2, 3] rfl)
      · refine lv_bipush (v := (-104)) hx hb dX6_year_40 (by decide) ?_
        have e9 : (fYearM ns rw Hn ym kept) = ((-104), ym, ns, rw) := (by unfold fYearM; grind)
        have hP9 := hP.sub (ws' := [(mo, .inr (6, [.ref apg, .int (nI P), .int ea, .int (nI K), .int (nI Hn), .int ((fYearM ns rw Hn ym kept).2.1), .int tm, .ref arw, .ref ans, .ref aro, .ref abo, .int (nI Sm), .ref asi, .int sd, .ref asv, .int kt, .int ky, .int (nI ks), .ref akr, .ref akn, .ref aks, .long ha])), (arw, .inl (cI, 15, .inl ((fYearM ns rw Hn ym kept).2.2.2))), (ans, .inl (cI, 20, .inl ((fYearM ns rw Hn ym kept).2.2.1)))]) [0, 1, 2] (by rw [e9]; try rfl)
        have hD9 := hD.sub (ws' := [(mo, .inr (6, [.ref apg, .int (nI P), .int ea, .int (nI K), .int (nI Hn), .int ((fYearM ns rw Hn ym kept).2.1), .int tm, .ref arw, .ref ans, .ref aro, .ref abo, .int (nI Sm), .ref asi, .int sd, .ref asv, .int kt, .int ky, .int (nI ks), .ref akr, .ref akn, .ref aks, .long ha])), (arw, .inl (cI, 15, .inl ((fYearM ns rw Hn ym kept).2.2.2))), (ans, .inl (cI, 20, .inl ((fYearM ns rw Hn ym kept).2.2.1)))]) [0, 1, 2] (by decide) (by rw [e9]; try rfl)
        exact W.iret (v := (-104)) hx hb hr (fun t ht hW => ⟨⟨(-104), (), rfl, (by rw [e9]; try rfl), by rw [ht]; exact hP9, hD9⟩, hS.F ht⟩) hS.2.2 dX6_year_42
    · have c_25 := zb_1 c_25
      refine lv_bipush (v := (-103)) hx hb dX6_year_28 (by decide) ?_
      have e9 : (fYearM ns rw Hn ym kept) = ((-103), ym, ns, rw) := (by unfold fYearM; grind)
      have hP9 := hP.sub (ws' := [(mo, .inr (6, [.ref apg, .int (nI P), .int ea, .int (nI K), .int (nI Hn), .int ((fYearM ns rw Hn ym kept).2.1), .int tm, .ref arw, .ref ans, .ref aro, .ref abo, .int (nI Sm), .ref asi, .int sd, .ref asv, .int kt, .int ky, .int (nI ks), .ref akr, .ref akn, .ref aks, .long ha])), (arw, .inl (cI, 15, .inl ((fYearM ns rw Hn ym kept).2.2.2))), (ans, .inl (cI, 20, .inl ((fYearM ns rw Hn ym kept).2.2.1)))]) [0, 1, 2] (by rw [e9]; try rfl)
      have hD9 := hD.sub (ws' := [(mo, .inr (6, [.ref apg, .int (nI P), .int ea, .int (nI K), .int (nI Hn), .int ((fYearM ns rw Hn ym kept).2.1), .int tm, .ref arw, .ref ans, .ref aro, .ref abo, .int (nI Sm), .ref asi, .int sd, .ref asv, .int kt, .int ky, .int (nI ks), .ref akr, .ref akn, .ref aks, .long ha])), (arw, .inl (cI, 15, .inl ((fYearM ns rw Hn ym kept).2.2.2))), (ans, .inl (cI, 20, .inl ((fYearM ns rw Hn ym kept).2.2.1)))]) [0, 1, 2] (by decide) (by rw [e9]; try rfl)
      exact W.iret (v := (-103)) hx hb hr (fun t ht hW => ⟨⟨(-103), (), rfl, (by rw [e9]; try rfl), by rw [ht]; exact hP9, hD9⟩, hS.F ht⟩) hS.2.2 dX6_year_30
  · have c_15 := zb_0 c_15
    rw [zin (lo := 0) (by decide) rfl] at c_15
    refine lv_bipush (v := (-102)) hx hb dX6_year_18 (by decide) ?_
    have e9 : (fYearM ns rw Hn ym kept) = ((-102), ym, ns, rw) := (by unfold fYearM; grind)
    have hP9 := hP.sub (ws' := [(mo, .inr (6, [.ref apg, .int (nI P), .int ea, .int (nI K), .int (nI Hn), .int ((fYearM ns rw Hn ym kept).2.1), .int tm, .ref arw, .ref ans, .ref aro, .ref abo, .int (nI Sm), .ref asi, .int sd, .ref asv, .int kt, .int ky, .int (nI ks), .ref akr, .ref akn, .ref aks, .long ha])), (arw, .inl (cI, 15, .inl ((fYearM ns rw Hn ym kept).2.2.2))), (ans, .inl (cI, 20, .inl ((fYearM ns rw Hn ym kept).2.2.1)))]) [0, 1, 2] (by rw [e9]; try rfl)
    have hD9 := hD.sub (ws' := [(mo, .inr (6, [.ref apg, .int (nI P), .int ea, .int (nI K), .int (nI Hn), .int ((fYearM ns rw Hn ym kept).2.1), .int tm, .ref arw, .ref ans, .ref aro, .ref abo, .int (nI Sm), .ref asi, .int sd, .ref asv, .int kt, .int ky, .int (nI ks), .ref akr, .ref akn, .ref aks, .long ha])), (arw, .inl (cI, 15, .inl ((fYearM ns rw Hn ym kept).2.2.2))), (ans, .inl (cI, 20, .inl ((fYearM ns rw Hn ym kept).2.2.1)))]) [0, 1, 2] (by decide) (by rw [e9]; try rfl)
    exact W.iret (v := (-102)) hx hb hr (fun t ht hW => ⟨⟨(-102), (), rfl, (by rw [e9]; try rfl), by rw [ht]; exact hP9, hD9⟩, hS.F ht⟩) hS.2.2 dX6_year_20

set_option maxHeartbeats 4000000 in
set_option maxRecDepth 100000 in
theorem c_X6_forgive (l : Launch) (D : va_G) (cI cZ cA : ClassId) (sz : Nat) (mo : Nat) (apg : Nat) (P : Nat) (ea : Int32) (K : Nat) (Hn : Nat) (ym : Int32) (tm : Int32) (arw : Nat) (ans : Nat) (aro : Nat) (abo : Nat) (Sm : Nat) (asi : Nat) (sd : Int32) (asv : Nat) (kt : Int32) (ky : Int32) (ks : Nat) (akr : Nat) (akn : Nat) (aks : Nat) (ha : Int64) (ns : Nat → Int32) (hH : Hn ≤ 5) : Met l yX6_forgive wsX6_forgive (zr 2) (va_Pc [.ref mo] (zPw D cI cZ cA [(mo, .inr (6, [.ref apg, .int (nI P), .int ea, .int (nI K), .int (nI Hn), .int ym, .int tm, .ref arw, .ref ans, .ref aro, .ref abo, .int (nI Sm), .ref asi, .int sd, .ref asv, .int kt, .int ky, .int (nI ks), .ref akr, .ref akn, .ref aks, .long ha])), (ans, .inl (cI, 20, .inl ns))] sz)) (va_Qi (fun (r : Int32) (_ : Unit) => r = (fgN ns Hn).1) (zB D [(mo, .inr (6, [.ref apg, .int (nI P), .int ea, .int (nI K), .int (nI Hn), .int ym, .int tm, .ref arw, .ref ans, .ref aro, .ref abo, .int (nI Sm), .ref asi, .int sd, .ref asv, .int kt, .int ky, .int (nI ks), .ref akr, .ref akn, .ref aks, .long ha])), (ans, .inl (cI, 20, .inl ((fgN ns Hn).2)))] (va_A [(mo, .inr (6, [.ref apg, .int (nI P), .int ea, .int (nI K), .int (nI Hn), .int ym, .int tm, .ref arw, .ref ans, .ref aro, .ref abo, .int (nI Sm), .ref asi, .int sd, .ref asv, .int kt, .int ky, .int (nI ks), .ref akr, .ref akn, .ref aks, .long ha])), (ans, .inl (cI, 20, .inl ns))] sz)) (va_A [(mo, .inr (6, [.ref apg, .int (nI P), .int ea, .int (nI K), .int (nI Hn), .int ym, .int tm, .ref arw, .ref ans, .ref aro, .ref abo, .int (nI Sm), .ref asi, .int sd, .ref asv, .int kt, .int ky, .int (nI ks), .ref akr, .ref akn, .ref aks, .long ha])), (ans, .inl (cI, 20, .inl ns))] sz)) 0 0 (va_A [(mo, .inr (6, [.ref apg, .int (nI P), .int ea, .int (nI K), .int (nI Hn), .int ym, .int tm, .ref arw, .ref ans, .ref aro, .ref abo, .int (nI Sm), .ref asi, .int sd, .ref asv, .int kt, .int ky, .int (nI ks), .ref akr, .ref akn, .ref aks, .long ha])), (ans, .inl (cI, 20, .inl ns))] sz) := by
  refine Met.ofW (cc := cX6_forgive) (maxL := 3) (ret := (some .int)) (by decide) rfl ?_
  intro p e s m args below meth c s₁ B hml hv
  obtain ⟨rfl, hsz, hP, hD0, hE⟩ := hv
  have hx := B.exec
  have hb := B.bytes
  have hr := B.returns
  have hts := atoms_spec (ws := wsX6_forgive) B.pre
  have hown : s.vm.findClass RX6 = some m.cls := findClass_of_methodNamed B.named
  have hlocks := B.notSynchronized
  subst hsz
  have hD := hD0.self (sz := s.heap.size)
  generalize hAe : va_A [(mo, .inr (6, [.ref apg, .int (nI P), .int ea, .int (nI K), .int (nI Hn), .int ym, .int tm, .ref arw, .ref ans, .ref aro, .ref abo, .int (nI Sm), .ref asi, .int sd, .ref asv, .int kt, .int ky, .int (nI ks), .ref akr, .ref akn, .ref aks, .long ha])), (ans, .inl (cI, 20, .inl ns))] s.heap.size = A at hD ⊢
  have hA : ∀ q : Nat, s.heap.size ≤ q → A q := fun q h => by rw [← hAe]; exact Or.inr h
  have hS : va_S A s.heap s.heap [] := va_S.rf
  have hP : va_P D vwCl [(mo, .inr (6, [.ref apg, .int (nI P), .int ea, .int (nI K), .int (nI Hn), .int ym, .int tm, .ref arw, .ref ans, .ref aro, .ref abo, .int (nI Sm), .ref asi, .int sd, .ref asv, .int kt, .int ky, .int (nI ks), .ref akr, .ref akn, .ref aks, .long ha])), (ans, .inl (cI, 20, .inl ns))] s.heap := hP
  have hD : va_D A [(mo, .inr (6, [.ref apg, .int (nI P), .int ea, .int (nI K), .int (nI Hn), .int ym, .int tm, .ref arw, .ref ans, .ref aro, .ref abo, .int (nI Sm), .ref asi, .int sd, .ref asv, .int kt, .int ky, .int (nI ks), .ref akr, .ref akn, .ref aks, .long ha])), (ans, .inl (cI, 20, .inl ns))] := hD
  have hl := lv_entry ([.ref mo]) (n := 3) (Nat.le_of_ble_eq_true rfl)
  rw [lg_entry_eq]
  generalize (lg_sl ([.ref mo]) ++ List.replicate (3 - (lg_sl ([.ref mo])).length) Slot.unset).toArray = ls at hl ⊢
  have hl : lv_has ls 3 [(0, .ref mo)] := hl
  have hinX6 : ∀ w ∈ wsX60, w ∈ wsX6_forgive := fun w h => List.mem_cons_of_mem _ (List.mem_append_right _ h)
  have k_0 := hts (.fieldLink RX6 75 "VowDovesModel" "holes" "I") (by decide +kernel)
  have k_1 := hts (.fieldLink RX6 16 "VowDovesModel" "nests" "[I") (by decide +kernel)
  refine lv_iconst (v := 0) hx hb dX6_forgive_0 (by decide) ?_
  refine lv_istore_n (lv' := [(1, .int 0), (0, .ref mo)]) hx hb dX6_forgive_1 rfl hl (by decide) rfl (fun ls hl => ?_)
  refine lv_iconst (v := 0) hx hb dX6_forgive_2 (by decide) ?_
  refine lv_istore_n (lv' := [(2, .int 0), (1, .int 0), (0, .ref mo)]) hx hb dX6_forgive_3 rfl hl (by decide) rfl (fun ls hl => ?_)
  have hc4_1 : ∀ (n : Nat) (i : Nat), (i ≤ Hn) → (Hn + 1 ≤ i + n) → ∀ (w1 : Int32), w1 = (fgN ns i).1 → ∀ (w2 : Int32), w2 = nI i → ∀ (wn : Nat → Int32), wn = (fgN ns i).2 → ∀ (H : Heap) (locs : List Loc), va_P D vwCl [(mo, .inr (6, [.ref apg, .int (nI P), .int ea, .int (nI K), .int (nI Hn), .int ym, .int tm, .ref arw, .ref ans, .ref aro, .ref abo, .int (nI Sm), .ref asi, .int sd, .ref asv, .int kt, .int ky, .int (nI ks), .ref akr, .ref akn, .ref aks, .long ha])), (ans, .inl (cI, 20, .inl wn))] H → va_D A [(mo, .inr (6, [.ref apg, .int (nI P), .int ea, .int (nI K), .int (nI Hn), .int ym, .int tm, .ref arw, .ref ans, .ref aro, .ref abo, .int (nI Sm), .ref asi, .int sd, .ref asv, .int kt, .int ky, .int (nI ks), .ref akr, .ref akn, .ref aks, .long ha])), (ans, .inl (cI, 20, .inl wn))] → va_S A s.heap H locs → ∀ (ls : Array Slot), lv_has ls 3 [(2, .int w2), (1, .int w1), (0, .ref mo)] → W p l e (headSpec wsX6_forgive (zr 2)).room s m ([.ref mo] : List Value).toArray below meth c H locs 0 0 (MQ below (va_Qi (fun (r : Int32) (_ : Unit) => r = (fgN ns Hn).1) (zB D [(mo, .inr (6, [.ref apg, .int (nI P), .int ea, .int (nI K), .int (nI Hn), .int ym, .int tm, .ref arw, .ref ans, .ref aro, .ref abo, .int (nI Sm), .ref asi, .int sd, .ref asv, .int kt, .int ky, .int (nI ks), .ref akr, .ref akn, .ref aks, .long ha])), (ans, .inl (cI, 20, .inl ((fgN ns Hn).2)))] A) A) ([.ref mo] : List Value).toArray s 0 0 A) (F0 m 4 ls []) := by
    intro n
    induction n with
    | zero => intro i hi hfu; exact absurd hfu (by omega)
    | succ n ihhc4_1 =>
      intro i hi hfu w1 ew1 w2 ew2 wn ewn H locs hP hD hS ls hl
      subst ew1
      subst ew2
      subst ewn
      refine lv_iload_n hx hb dX6_forgive_4 rfl (lv_at hl 0 rfl) ?_
      refine lv_aload_n hx hb dX6_forgive_5 rfl (lv_at hl 2 rfl) ?_
      refine va_get (D := D) (ci := 6) (v := .int (nI Hn)) (C := RX6) (T := TX6) (N := 22) hx hb hts hinX6 hown hE.1 hP 0 rfl rfl 4 (by decide) k_0 (fun _ h9 => h9) rfl dX6_forgive_6 ?_
      refine lv_icmp_ge (tgt := 40) hx hb dX6_forgive_9 (by decide) (fun c_9 => ?_) (fun c_9 => ?_)
      · have n_9 := zn_le (a := Hn) (b := i) rfl rfl c_9 (by omega) (by omega)
        obtain rfl : Hn = i := by omega
        refine lv_iload_n hx hb dX6_forgive_40 rfl (lv_at hl 1 rfl) ?_
        have e9 : (fgN ns Hn) = ((fgN ns Hn).1, (fgN ns Hn).2) := rfl
        have hP9 := hP.sub (ws' := [(mo, .inr (6, [.ref apg, .int (nI P), .int ea, .int (nI K), .int (nI Hn), .int ym, .int tm, .ref arw, .ref ans, .ref aro, .ref abo, .int (nI Sm), .ref asi, .int sd, .ref asv, .int kt, .int ky, .int (nI ks), .ref akr, .ref akn, .ref aks, .long ha])), (ans, .inl (cI, 20, .inl ((fgN ns Hn).2)))]) [0, 1] (by rw [e9]; try rfl)
        have hD9 := hD.sub (ws' := [(mo, .inr (6, [.ref apg, .int (nI P), .int ea, .int (nI K), .int (nI Hn), .int ym, .int tm, .ref arw, .ref ans, .ref aro, .ref abo, .int (nI Sm), .ref asi, .int sd, .ref asv, .int kt, .int ky, .int (nI ks), .ref akr, .ref akn, .ref aks, .long ha])), (ans, .inl (cI, 20, .inl ((fgN ns Hn).2)))]) [0, 1] (by decide) (by rw [e9]; try rfl)
        exact W.iret (v := (fgN ns Hn).1) hx hb hr (fun t ht hW => ⟨⟨((fgN ns Hn).1), (), rfl, (by rw [e9]; try rfl), by rw [ht]; exact hP9, hD9⟩, hS.F ht⟩) hS.2.2 dX6_forgive_41
      · have n_9 := zn_nle (a := Hn) (b := i) rfl rfl c_9 (by omega) (by omega)
        refine lv_aload_n hx hb dX6_forgive_12 rfl (lv_at hl 2 rfl) ?_
        refine va_get (D := D) (ci := 6) (v := .ref ans) (C := RX6) (T := TX6) (N := 22) hx hb hts hinX6 hown hE.1 hP 0 rfl rfl 8 (by decide) k_1 (fun _ h9 => h9) rfl dX6_forgive_13 ?_
        refine lv_iconst (v := 4) hx hb dX6_forgive_16 (by decide) ?_
        refine lv_iload_n hx hb dX6_forgive_17 rfl (lv_at hl 0 rfl) ?_
        refine z_imulN hx hb (a := 4) (b := i) rfl rfl dX6_forgive_18 ?_
        refine lv_iconst (v := 2) hx hb dX6_forgive_19 (by decide) ?_
        refine z_iaddN hx hb (a := 4 * i) (b := 2) rfl rfl dX6_forgive_20 ?_
        refine z_iald hx hb hE hP 1 rfl (j := (4 * i) + 2) rfl (by omega) (by decide) dX6_forgive_21 ?_
        refine lv_iconst (v := 2) hx hb dX6_forgive_22 (by decide) ?_
        refine lv_icmp_ne (tgt := 34) hx hb dX6_forgive_23 (by decide) (fun c_23 => ?_) (fun c_23 => ?_)
        · refine lv_iinc (v := nI (i + 1)) (lv' := [(2, .int (nI (i + 1))), (1, .int ((fgN ns i).1)), (0, .ref mo)]) hx hb dX6_forgive_34 hl (k := 0) rfl (nI_add i 1) (by decide) rfl (fun ls hl => ?_)
          refine lv_goto (tgt := 4) hx hb dX6_forgive_37 (by decide) ?_
          exact ihhc4_1 (i + 1) (by omega) (by omega) ((fgN ns i).1) (by rw [fgN]; unfold fgSt; simp [c_23]) (nI (i + 1)) rfl ((fgN ns i).2) (by rw [fgN]; unfold fgSt empM; simp [c_23]) _ _ (hP.sub [0, 1] rfl) (hD.sub [0, 1] (by decide) rfl) hS ls (lv_sub hl [0, 1, 2] rfl)
        · refine lv_iinc (v := ((fgN ns i).1) + 1) (lv' := [(1, .int (((fgN ns i).1) + 1)), (2, .int (nI i)), (0, .ref mo)]) hx hb dX6_forgive_26 hl (k := 1) rfl rfl (by decide) rfl (fun ls hl => ?_)
          refine lv_aload_n hx hb dX6_forgive_29 rfl (lv_at hl 2 rfl) ?_
          refine lv_iload_n hx hb dX6_forgive_30 rfl (lv_at hl 1 rfl) ?_
          refine z_rwVv (As := [.int (nI i)]) (rest := []) (wr := []) (w1 := [(mo, .inr (6, [.ref apg, .int (nI P), .int ea, .int (nI K), .int (nI Hn), .int ym, .int tm, .ref arw, .ref ans, .ref aro, .ref abo, .int (nI Sm), .ref asi, .int sd, .ref asv, .int kt, .int ky, .int (nI ks), .ref akr, .ref akn, .ref aks, .long ha])), (ans, .inl (cI, 20, .inl (upd (upd (upd ((fgN ns i).2) (4 * i + 1) (-1)) (4 * i + 2) 0) (4 * i + 3) 0)))]) ⟨hx, hb, hml, hown, hts⟩ (c_X6_empty l D cI cZ cA _ mo apg P ea K Hn ym tm arw ans aro abo Sm asi sd asv kt ky ks akr akn aks ha ((fgN ns i).2) i (by first | assumption | omega)) (cwV 1 hts gX6_forgive_X6_empty rfl rfl rfl (by decide +kernel) ⟨Nat.le_of_ble_eq_true rfl, Nat.le_of_ble_eq_true rfl⟩) hE hP hD hS hA [0, 1] [] rfl rfl rfl (by decide) (by decide) (by decide) 0 6 rfl rfl rfl hl.1 rfl (Nat.le_of_ble_eq_true rfl) dX6_forgive_31 ⟨Nat.zero_le _, Nat.zero_le _⟩ (fun H locs hP hD hS => ?_)
          have hP : va_P D vwCl [(mo, .inr (6, [.ref apg, .int (nI P), .int ea, .int (nI K), .int (nI Hn), .int ym, .int tm, .ref arw, .ref ans, .ref aro, .ref abo, .int (nI Sm), .ref asi, .int sd, .ref asv, .int kt, .int ky, .int (nI ks), .ref akr, .ref akn, .ref aks, .long ha])), (ans, .inl (cI, 20, .inl (upd (upd (upd ((fgN ns i).2) (4 * i + 1) (-1)) (4 * i + 2) 0) (4 * i + 3) 0)))] H := hP
          have hD : va_D A [(mo, .inr (6, [.ref apg, .int (nI P), .int ea, .int (nI K), .int (nI Hn), .int ym, .int tm, .ref arw, .ref ans, .ref aro, .ref abo, .int (nI Sm), .ref asi, .int sd, .ref asv, .int kt, .int ky, .int (nI ks), .ref akr, .ref akn, .ref aks, .long ha])), (ans, .inl (cI, 20, .inl (upd (upd (upd ((fgN ns i).2) (4 * i + 1) (-1)) (4 * i + 2) 0) (4 * i + 3) 0)))] := hD
          refine lv_iinc (v := nI (i + 1)) (lv' := [(2, .int (nI (i + 1))), (1, .int (((fgN ns i).1) + 1)), (0, .ref mo)]) hx hb dX6_forgive_34 hl (k := 1) rfl (nI_add i 1) (by decide) rfl (fun ls hl => ?_)
          refine lv_goto (tgt := 4) hx hb dX6_forgive_37 (by decide) ?_
          exact ihhc4_1 (i + 1) (by omega) (by omega) (((fgN ns i).1) + 1) (by rw [fgN]; unfold fgSt; simp [c_23]) (nI (i + 1)) rfl (upd (upd (upd ((fgN ns i).2) (4 * i + 1) (-1)) (4 * i + 2) 0) (4 * i + 3) 0) (by rw [fgN]; unfold fgSt empM; simp [c_23]) _ _ (hP.sub [0, 1] rfl) (hD.sub [0, 1] (by decide) rfl) hS ls (lv_sub hl [0, 1, 2] rfl)
  exact hc4_1 (Hn + 1) 0 (by omega) (by omega) 0 rfl 0 rfl ns rfl _ _ (hP.sub [0, 1] rfl) (hD.sub [0, 1] (by decide) rfl) hS ls (lv_sub hl [0, 1, 2] rfl)

set_option maxHeartbeats 4000000 in
set_option maxRecDepth 100000 in
theorem c_X6_see (l : Launch) (D : va_G) (cI cZ cA : ClassId) (sz : Nat) (mo : Nat) (apg : Nat) (P : Nat) (ea : Int32) (K : Nat) (Hn : Nat) (ym : Int32) (tm : Int32) (arw : Nat) (ans : Nat) (aro : Nat) (abo : Nat) (Sm : Nat) (asi : Nat) (sd : Int32) (asv : Nat) (kt : Int32) (ky : Int32) (ks : Nat) (akr : Nat) (akn : Nat) (aks : Nat) (ha : Int64) (si : Nat → Int32) (k : Int32) (hd0 : Int32) (kept : Int32) (hK : K ≤ 5) (hS8 : Sm ≤ 8) : Met l yX6_see wsX6_see (zr 3) (va_Pc [.ref mo, .int k, .int hd0, .int kept] (zPw D cI cZ cA [(mo, .inr (6, [.ref apg, .int (nI P), .int ea, .int (nI K), .int (nI Hn), .int ym, .int tm, .ref arw, .ref ans, .ref aro, .ref abo, .int (nI Sm), .ref asi, .int sd, .ref asv, .int kt, .int ky, .int (nI ks), .ref akr, .ref akn, .ref aks, .long ha])), (asi, .inl (cI, 24, .inl si))] sz)) (va_Qi (fun (r : Int32) (_ : Unit) => r = (fSeeM si K Sm k hd0 kept).1) (zB D [(mo, .inr (6, [.ref apg, .int (nI P), .int ea, .int (nI K), .int (nI Hn), .int ym, .int tm, .ref arw, .ref ans, .ref aro, .ref abo, .int (nI ((fSeeM si K Sm k hd0 kept).2.1)), .ref asi, .int sd, .ref asv, .int kt, .int ky, .int (nI ks), .ref akr, .ref akn, .ref aks, .long ha])), (asi, .inl (cI, 24, .inl ((fSeeM si K Sm k hd0 kept).2.2)))] (va_A [(mo, .inr (6, [.ref apg, .int (nI P), .int ea, .int (nI K), .int (nI Hn), .int ym, .int tm, .ref arw, .ref ans, .ref aro, .ref abo, .int (nI Sm), .ref asi, .int sd, .ref asv, .int kt, .int ky, .int (nI ks), .ref akr, .ref akn, .ref aks, .long ha])), (asi, .inl (cI, 24, .inl si))] sz)) (va_A [(mo, .inr (6, [.ref apg, .int (nI P), .int ea, .int (nI K), .int (nI Hn), .int ym, .int tm, .ref arw, .ref ans, .ref aro, .ref abo, .int (nI Sm), .ref asi, .int sd, .ref asv, .int kt, .int ky, .int (nI ks), .ref akr, .ref akn, .ref aks, .long ha])), (asi, .inl (cI, 24, .inl si))] sz)) 0 0 (va_A [(mo, .inr (6, [.ref apg, .int (nI P), .int ea, .int (nI K), .int (nI Hn), .int ym, .int tm, .ref arw, .ref ans, .ref aro, .ref abo, .int (nI Sm), .ref asi, .int sd, .ref asv, .int kt, .int ky, .int (nI ks), .ref akr, .ref akn, .ref aks, .long ha])), (asi, .inl (cI, 24, .inl si))] sz) := by
  refine Met.ofW (cc := cX6_see) (maxL := 4) (ret := (some .int)) (by decide) rfl ?_
  intro p e s m args below meth c s₁ B hml hv
  obtain ⟨rfl, hsz, hP, hD0, hE⟩ := hv
  have hx := B.exec
  have hb := B.bytes
  have hr := B.returns
  have hts := atoms_spec (ws := wsX6_see) B.pre
  have hown : s.vm.findClass RX6 = some m.cls := findClass_of_methodNamed B.named
  have hlocks := B.notSynchronized
  subst hsz
  have hD := hD0.self (sz := s.heap.size)
  generalize hAe : va_A [(mo, .inr (6, [.ref apg, .int (nI P), .int ea, .int (nI K), .int (nI Hn), .int ym, .int tm, .ref arw, .ref ans, .ref aro, .ref abo, .int (nI Sm), .ref asi, .int sd, .ref asv, .int kt, .int ky, .int (nI ks), .ref akr, .ref akn, .ref aks, .long ha])), (asi, .inl (cI, 24, .inl si))] s.heap.size = A at hD ⊢
  have hA : ∀ q : Nat, s.heap.size ≤ q → A q := fun q h => by rw [← hAe]; exact Or.inr h
  have hS : va_S A s.heap s.heap [] := va_S.rf
  have hP : va_P D vwCl [(mo, .inr (6, [.ref apg, .int (nI P), .int ea, .int (nI K), .int (nI Hn), .int ym, .int tm, .ref arw, .ref ans, .ref aro, .ref abo, .int (nI Sm), .ref asi, .int sd, .ref asv, .int kt, .int ky, .int (nI ks), .ref akr, .ref akn, .ref aks, .long ha])), (asi, .inl (cI, 24, .inl si))] s.heap := hP
  have hD : va_D A [(mo, .inr (6, [.ref apg, .int (nI P), .int ea, .int (nI K), .int (nI Hn), .int ym, .int tm, .ref arw, .ref ans, .ref aro, .ref abo, .int (nI Sm), .ref asi, .int sd, .ref asv, .int kt, .int ky, .int (nI ks), .ref akr, .ref akn, .ref aks, .long ha])), (asi, .inl (cI, 24, .inl si))] := hD
  have hl := lv_entry ([.ref mo, .int k, .int hd0, .int kept]) (n := 4) (Nat.le_of_ble_eq_true rfl)
  rw [lg_entry_eq]
  generalize (lg_sl ([.ref mo, .int k, .int hd0, .int kept]) ++ List.replicate (4 - (lg_sl ([.ref mo, .int k, .int hd0, .int kept])).length) Slot.unset).toArray = ls at hl ⊢
  have hl : lv_has ls 4 [(0, .ref mo), (1, .int k), (2, .int hd0), (3, .int kept)] := hl
  have hinX6 : ∀ w ∈ wsX60, w ∈ wsX6_see := fun w h => List.mem_cons_of_mem _ (List.mem_append_right _ h)
  have k_0 := hts (.constantLong RX6 116 (9)) (by decide +kernel)
  have k_1 := hts (.fieldLink RX6 85 "VowDovesModel" "seenMany" "I") (by decide +kernel)
  have k_2 := hts (.fieldLink RX6 25 "VowDovesModel" "sights" "[I") (by decide +kernel)
  refine lv_aload_n hx hb dX6_see_0 rfl (lv_at hl 0 rfl) ?_
  refine lv_iload_n hx hb dX6_see_1 rfl (lv_at hl 1 rfl) ?_
  refine z_roVi (As := [.int k]) (rest := []) ⟨hx, hb, hml, hown, hts⟩ (c_X6_isKeeper l D cI cZ cA mo apg P ea K Hn ym tm arw ans aro abo Sm asi sd asv kt ky ks akr akn aks ha k (by first | assumption | omega)) (cwV 1 hts gX6_see_X6_isKeeper rfl rfl rfl (by decide +kernel) ⟨Nat.le_of_ble_eq_true rfl, Nat.le_of_ble_eq_true rfl⟩) hE hP [0] rfl 0 6 rfl rfl rfl hl.1 rfl (Nat.le_of_ble_eq_true rfl) dX6_see_2 ⟨Nat.zero_le _, Nat.zero_le _⟩ ?_
  refine lv_if_ne (tgt := 11) hx hb dX6_see_5 (by decide) (fun c_5 => ?_) (fun c_5 => ?_)
  · have c_5 := zb_1 c_5
    refine lv_iload_n hx hb dX6_see_11 rfl (lv_at hl 2 rfl) ?_
    refine lv_i2l (v := (hd0 : Int32).toInt64) hx hb dX6_see_12 rfl ?_
    refine lv_lconst (v := 0) hx hb dX6_see_13 (by decide) ?_
    refine lv_ldc2 (v := 9) hx hb hown k_0 dX6_see_14 ?_
    refine z_roSi (As := [.long ((hd0 : Int32).toInt64), .long 0, .long 9]) (rest := []) ⟨hx, hb, hml, hown, hts⟩ (c_X6_in l D cI cZ cA ((hd0 : Int32).toInt64) 0 9 ) (va_cwS 3 hts gX6_see_X6_in rfl rfl rfl (by decide +kernel) ⟨Nat.le_of_ble_eq_true rfl, Nat.le_of_ble_eq_true rfl⟩) hE hP [] rfl rfl hl.1 rfl (Nat.le_of_ble_eq_true rfl) dX6_see_17 ⟨Nat.zero_le _, Nat.zero_le _⟩ ?_
    refine lv_if_ne (tgt := 26) hx hb dX6_see_20 (by decide) (fun c_20 => ?_) (fun c_20 => ?_)
    · have c_20 := zb_1 c_20
      rw [zin (lo := 0) (hi := 9) (by decide) (by decide)] at c_20
      refine lv_aload_n hx hb dX6_see_26 rfl (lv_at hl 0 rfl) ?_
      refine va_get (D := D) (ci := 6) (v := .int (nI Sm)) (C := RX6) (T := TX6) (N := 22) hx hb hts hinX6 hown hE.1 hP 0 rfl rfl 11 (by decide) k_1 (fun _ h9 => h9) rfl dX6_see_27 ?_
      refine lv_bipush (v := 8) hx hb dX6_see_30 (by decide) ?_
      refine lv_icmp_ne (tgt := 38) hx hb dX6_see_32 (by decide) (fun c_32 => ?_) (fun c_32 => ?_)
      · have n_32 := zn_ne (a := Sm) (b := 8) rfl rfl c_32 (by omega) (by omega)
        refine lv_aload_n hx hb dX6_see_38 rfl (lv_at hl 0 rfl) ?_
        refine va_get (D := D) (ci := 6) (v := .ref asi) (C := RX6) (T := TX6) (N := 22) hx hb hts hinX6 hown hE.1 hP 0 rfl rfl 12 (by decide) k_2 (fun _ h9 => h9) rfl dX6_see_39 ?_
        refine lv_iconst (v := 3) hx hb dX6_see_42 (by decide) ?_
        refine lv_aload_n hx hb dX6_see_43 rfl (lv_at hl 0 rfl) ?_
        refine va_get (D := D) (ci := 6) (v := .int (nI Sm)) (C := RX6) (T := TX6) (N := 22) hx hb hts hinX6 hown hE.1 hP 0 rfl rfl 11 (by decide) k_1 (fun _ h9 => h9) rfl dX6_see_44 ?_
        refine z_imulN hx hb (a := 3) (b := Sm) rfl rfl dX6_see_47 ?_
        refine lv_iload_n hx hb dX6_see_48 rfl (lv_at hl 1 rfl) ?_
        refine z_iast hx hb hE hP hD hS 1 rfl (j := 3 * Sm) rfl (by omega) (by decide) dX6_see_49 (fun H locs hP hD hS => ?_)
        have hP : va_P D vwCl [(mo, .inr (6, [.ref apg, .int (nI P), .int ea, .int (nI K), .int (nI Hn), .int ym, .int tm, .ref arw, .ref ans, .ref aro, .ref abo, .int (nI Sm), .ref asi, .int sd, .ref asv, .int kt, .int ky, .int (nI ks), .ref akr, .ref akn, .ref aks, .long ha])), (asi, .inl (cI, 24, .inl (upd si (3 * Sm) k)))] H := hP
        have hD : va_D A [(mo, .inr (6, [.ref apg, .int (nI P), .int ea, .int (nI K), .int (nI Hn), .int ym, .int tm, .ref arw, .ref ans, .ref aro, .ref abo, .int (nI Sm), .ref asi, .int sd, .ref asv, .int kt, .int ky, .int (nI ks), .ref akr, .ref akn, .ref aks, .long ha])), (asi, .inl (cI, 24, .inl (upd si (3 * Sm) k)))] := hD
        refine lv_aload_n hx hb dX6_see_50 rfl (lv_at hl 0 rfl) ?_
        refine va_get (D := D) (ci := 6) (v := .ref asi) (C := RX6) (T := TX6) (N := 22) hx hb hts hinX6 hown hE.1 hP 0 rfl rfl 12 (by decide) k_2 (fun _ h9 => h9) rfl dX6_see_51 ?_
        refine lv_iconst (v := 3) hx hb dX6_see_54 (by decide) ?_
        refine lv_aload_n hx hb dX6_see_55 rfl (lv_at hl 0 rfl) ?_
        refine va_get (D := D) (ci := 6) (v := .int (nI Sm)) (C := RX6) (T := TX6) (N := 22) hx hb hts hinX6 hown hE.1 hP 0 rfl rfl 11 (by decide) k_1 (fun _ h9 => h9) rfl dX6_see_56 ?_
        refine z_imulN hx hb (a := 3) (b := Sm) rfl rfl dX6_see_59 ?_
        refine lv_iconst (v := 1) hx hb dX6_see_60 (by decide) ?_
        refine z_iaddN hx hb (a := 3 * Sm) (b := 1) rfl rfl dX6_see_61 ?_
        refine lv_iload_n hx hb dX6_see_62 rfl (lv_at hl 2 rfl) ?_
        refine z_iast hx hb hE hP hD hS 1 rfl (j := (3 * Sm) + 1) rfl (by omega) (by decide) dX6_see_63 (fun H locs hP hD hS => ?_)
        have hP : va_P D vwCl [(mo, .inr (6, [.ref apg, .int (nI P), .int ea, .int (nI K), .int (nI Hn), .int ym, .int tm, .ref arw, .ref ans, .ref aro, .ref abo, .int (nI Sm), .ref asi, .int sd, .ref asv, .int kt, .int ky, .int (nI ks), .ref akr, .ref akn, .ref aks, .long ha])), (asi, .inl (cI, 24, .inl (upd (upd si (3 * Sm) k) ((3 * Sm) + 1) hd0)))] H := hP
        have hD : va_D A [(mo, .inr (6, [.ref apg, .int (nI P), .int ea, .int (nI K), .int (nI Hn), .int ym, .int tm, .ref arw, .ref ans, .ref aro, .ref abo, .int (nI Sm), .ref asi, .int sd, .ref asv, .int kt, .int ky, .int (nI ks), .ref akr, .ref akn, .ref aks, .long ha])), (asi, .inl (cI, 24, .inl (upd (upd si (3 * Sm) k) ((3 * Sm) + 1) hd0)))] := hD
        refine lv_aload_n hx hb dX6_see_64 rfl (lv_at hl 0 rfl) ?_
        refine va_get (D := D) (ci := 6) (v := .ref asi) (C := RX6) (T := TX6) (N := 22) hx hb hts hinX6 hown hE.1 hP 0 rfl rfl 12 (by decide) k_2 (fun _ h9 => h9) rfl dX6_see_65 ?_
        refine lv_iconst (v := 3) hx hb dX6_see_68 (by decide) ?_
        refine lv_aload_n hx hb dX6_see_69 rfl (lv_at hl 0 rfl) ?_
        refine va_get (D := D) (ci := 6) (v := .int (nI Sm)) (C := RX6) (T := TX6) (N := 22) hx hb hts hinX6 hown hE.1 hP 0 rfl rfl 11 (by decide) k_1 (fun _ h9 => h9) rfl dX6_see_70 ?_
        refine z_imulN hx hb (a := 3) (b := Sm) rfl rfl dX6_see_73 ?_
        refine lv_iconst (v := 2) hx hb dX6_see_74 (by decide) ?_
        refine z_iaddN hx hb (a := 3 * Sm) (b := 2) rfl rfl dX6_see_75 ?_
        refine lv_iload_n hx hb dX6_see_76 rfl (lv_at hl 3 rfl) ?_
        refine lv_if_eq (tgt := 84) hx hb dX6_see_77 (by decide) (fun c_77 => ?_) (fun c_77 => ?_)
        · refine lv_iconst (v := 0) hx hb dX6_see_84 (by decide) ?_
          refine z_iast hx hb hE hP hD hS 1 rfl (j := (3 * Sm) + 2) rfl (by omega) (by decide) dX6_see_85 (fun H locs hP hD hS => ?_)
          have hP : va_P D vwCl [(mo, .inr (6, [.ref apg, .int (nI P), .int ea, .int (nI K), .int (nI Hn), .int ym, .int tm, .ref arw, .ref ans, .ref aro, .ref abo, .int (nI Sm), .ref asi, .int sd, .ref asv, .int kt, .int ky, .int (nI ks), .ref akr, .ref akn, .ref aks, .long ha])), (asi, .inl (cI, 24, .inl (upd (upd (upd si (3 * Sm) k) ((3 * Sm) + 1) hd0) ((3 * Sm) + 2) 0)))] H := hP
          have hD : va_D A [(mo, .inr (6, [.ref apg, .int (nI P), .int ea, .int (nI K), .int (nI Hn), .int ym, .int tm, .ref arw, .ref ans, .ref aro, .ref abo, .int (nI Sm), .ref asi, .int sd, .ref asv, .int kt, .int ky, .int (nI ks), .ref akr, .ref akn, .ref aks, .long ha])), (asi, .inl (cI, 24, .inl (upd (upd (upd si (3 * Sm) k) ((3 * Sm) + 1) hd0) ((3 * Sm) + 2) 0)))] := hD
          refine lv_aload_n hx hb dX6_see_86 rfl (lv_at hl 0 rfl) ?_
          refine lv_dup hx hb dX6_see_87 rfl ?_
          refine va_get (D := D) (ci := 6) (v := .int (nI Sm)) (C := RX6) (T := TX6) (N := 22) hx hb hts hinX6 hown hE.1 hP 0 rfl rfl 11 (by decide) k_1 (fun _ h9 => h9) rfl dX6_see_88 ?_
          refine lv_iconst (v := 1) hx hb dX6_see_91 (by decide) ?_
          refine z_iaddN hx hb (a := Sm) (b := 1) rfl rfl dX6_see_92 ?_
          refine va_put (D := D) (ci := 6) (v := .int (nI (Sm + 1))) (ty := .int) (C := RX6) (T := TX6) (N := 22) hx hb hts hinX6 tyX6 tyX6_ok nmX6 hown hE.1 hP hD hS 0 rfl rfl 11 (by decide) k_1 (fun _ h9 => h9) rfl (by decide +kernel) rfl rfl (Nat.le_of_ble_eq_true rfl) dX6_see_93 (fun H locs hP hD hS => ?_)
          have hP : va_P D vwCl [(mo, .inr (6, [.ref apg, .int (nI P), .int ea, .int (nI K), .int (nI Hn), .int ym, .int tm, .ref arw, .ref ans, .ref aro, .ref abo, .int (nI (Sm + 1)), .ref asi, .int sd, .ref asv, .int kt, .int ky, .int (nI ks), .ref akr, .ref akn, .ref aks, .long ha])), (asi, .inl (cI, 24, .inl (upd (upd (upd si (3 * Sm) k) ((3 * Sm) + 1) hd0) ((3 * Sm) + 2) 0)))] H := hP
          have hD : va_D A [(mo, .inr (6, [.ref apg, .int (nI P), .int ea, .int (nI K), .int (nI Hn), .int ym, .int tm, .ref arw, .ref ans, .ref aro, .ref abo, .int (nI (Sm + 1)), .ref asi, .int sd, .ref asv, .int kt, .int ky, .int (nI ks), .ref akr, .ref akn, .ref aks, .long ha])), (asi, .inl (cI, 24, .inl (upd (upd (upd si (3 * Sm) k) ((3 * Sm) + 1) hd0) ((3 * Sm) + 2) 0)))] := hD
          refine lv_aload_n hx hb dX6_see_96 rfl (lv_at hl 0 rfl) ?_
          refine va_get (D := D) (ci := 6) (v := .int (nI (Sm + 1))) (C := RX6) (T := TX6) (N := 22) hx hb hts hinX6 hown hE.1 hP 0 rfl rfl 11 (by decide) k_1 (fun _ h9 => h9) rfl dX6_see_97 ?_
          have e9 : (fSeeM si K Sm k hd0 kept) = (nI (Sm + 1), Sm + 1, upd (upd (upd si (3 * Sm) k) ((3 * Sm) + 1) hd0) ((3 * Sm) + 2) 0) := (by unfold fSeeM; grind)
          have hP9 := hP.sub (ws' := [(mo, .inr (6, [.ref apg, .int (nI P), .int ea, .int (nI K), .int (nI Hn), .int ym, .int tm, .ref arw, .ref ans, .ref aro, .ref abo, .int (nI ((fSeeM si K Sm k hd0 kept).2.1)), .ref asi, .int sd, .ref asv, .int kt, .int ky, .int (nI ks), .ref akr, .ref akn, .ref aks, .long ha])), (asi, .inl (cI, 24, .inl ((fSeeM si K Sm k hd0 kept).2.2)))]) [0, 1] (by rw [e9]; try rfl)
          have hD9 := hD.sub (ws' := [(mo, .inr (6, [.ref apg, .int (nI P), .int ea, .int (nI K), .int (nI Hn), .int ym, .int tm, .ref arw, .ref ans, .ref aro, .ref abo, .int (nI ((fSeeM si K Sm k hd0 kept).2.1)), .ref asi, .int sd, .ref asv, .int kt, .int ky, .int (nI ks), .ref akr, .ref akn, .ref aks, .long ha])), (asi, .inl (cI, 24, .inl ((fSeeM si K Sm k hd0 kept).2.2)))]) [0, 1] (by decide) (by rw [e9]; try rfl)
          exact W.iret (v := nI (Sm + 1)) hx hb hr (fun t ht hW => ⟨⟨(nI (Sm + 1)), (), rfl, (by rw [e9]; try rfl), by rw [ht]; exact hP9, hD9⟩, hS.F ht⟩) hS.2.2 dX6_see_100
        · refine lv_iconst (v := 1) hx hb dX6_see_80 (by decide) ?_
          refine lv_goto (tgt := 85) hx hb dX6_see_81 (by decide) ?_
          refine z_iast hx hb hE hP hD hS 1 rfl (j := (3 * Sm) + 2) rfl (by omega) (by decide) dX6_see_85 (fun H locs hP hD hS => ?_)
          have hP : va_P D vwCl [(mo, .inr (6, [.ref apg, .int (nI P), .int ea, .int (nI K), .int (nI Hn), .int ym, .int tm, .ref arw, .ref ans, .ref aro, .ref abo, .int (nI Sm), .ref asi, .int sd, .ref asv, .int kt, .int ky, .int (nI ks), .ref akr, .ref akn, .ref aks, .long ha])), (asi, .inl (cI, 24, .inl (upd (upd (upd si (3 * Sm) k) ((3 * Sm) + 1) hd0) ((3 * Sm) + 2) 1)))] H := hP
          have hD : va_D A [(mo, .inr (6, [.ref apg, .int (nI P), .int ea, .int (nI K), .int (nI Hn), .int ym, .int tm, .ref arw, .ref ans, .ref aro, .ref abo, .int (nI Sm), .ref asi, .int sd, .ref asv, .int kt, .int ky, .int (nI ks), .ref akr, .ref akn, .ref aks, .long ha])), (asi, .inl (cI, 24, .inl (upd (upd (upd si (3 * Sm) k) ((3 * Sm) + 1) hd0) ((3 * Sm) + 2) 1)))] := hD
          refine lv_aload_n hx hb dX6_see_86 rfl (lv_at hl 0 rfl) ?_
          refine lv_dup hx hb dX6_see_87 rfl ?_
          refine va_get (D := D) (ci := 6) (v := .int (nI Sm)) (C := RX6) (T := TX6) (N := 22) hx hb hts hinX6 hown hE.1 hP 0 rfl rfl 11 (by decide) k_1 (fun _ h9 => h9) rfl dX6_see_88 ?_
          refine lv_iconst (v := 1) hx hb dX6_see_91 (by decide) ?_
          refine z_iaddN hx hb (a := Sm) (b := 1) rfl rfl dX6_see_92 ?_
          refine va_put (D := D) (ci := 6) (v := .int (nI (Sm + 1))) (ty := .int) (C := RX6) (T := TX6) (N := 22) hx hb hts hinX6 tyX6 tyX6_ok nmX6 hown hE.1 hP hD hS 0 rfl rfl 11 (by decide) k_1 (fun _ h9 => h9) rfl (by decide +kernel) rfl rfl (Nat.le_of_ble_eq_true rfl) dX6_see_93 (fun H locs hP hD hS => ?_)
          have hP : va_P D vwCl [(mo, .inr (6, [.ref apg, .int (nI P), .int ea, .int (nI K), .int (nI Hn), .int ym, .int tm, .ref arw, .ref ans, .ref aro, .ref abo, .int (nI (Sm + 1)), .ref asi, .int sd, .ref asv, .int kt, .int ky, .int (nI ks), .ref akr, .ref akn, .ref aks, .long ha])), (asi, .inl (cI, 24, .inl (upd (upd (upd si (3 * Sm) k) ((3 * Sm) + 1) hd0) ((3 * Sm) + 2) 1)))] H := hP
          have hD : va_D A [(mo, .inr (6, [.ref apg, .int (nI P), .int ea, .int (nI K), .int (nI Hn), .int ym, .int tm, .ref arw, .ref ans, .ref aro, .ref abo, .int (nI (Sm + 1)), .ref asi, .int sd, .ref asv, .int kt, .int ky, .int (nI ks), .ref akr, .ref akn, .ref aks, .long ha])), (asi, .inl (cI, 24, .inl (upd (upd (upd si (3 * Sm) k) ((3 * Sm) + 1) hd0) ((3 * Sm) + 2) 1)))] := hD
          refine lv_aload_n hx hb dX6_see_96 rfl (lv_at hl 0 rfl) ?_
          refine va_get (D := D) (ci := 6) (v := .int (nI (Sm + 1))) (C := RX6) (T := TX6) (N := 22) hx hb hts hinX6 hown hE.1 hP 0 rfl rfl 11 (by decide) k_1 (fun _ h9 => h9) rfl dX6_see_97 ?_
          have e9 : (fSeeM si K Sm k hd0 kept) = (nI (Sm + 1), Sm + 1, upd (upd (upd si (3 * Sm) k) ((3 * Sm) + 1) hd0) ((3 * Sm) + 2) 1) := (by unfold fSeeM; grind)
          have hP9 := hP.sub (ws' := [(mo, .inr (6, [.ref apg, .int (nI P), .int ea, .int (nI K), .int (nI Hn), .int ym, .int tm, .ref arw, .ref ans, .ref aro, .ref abo, .int (nI ((fSeeM si K Sm k hd0 kept).2.1)), .ref asi, .int sd, .ref asv, .int kt, .int ky, .int (nI ks), .ref akr, .ref akn, .ref aks, .long ha])), (asi, .inl (cI, 24, .inl ((fSeeM si K Sm k hd0 kept).2.2)))]) [0, 1] (by rw [e9]; try rfl)
          have hD9 := hD.sub (ws' := [(mo, .inr (6, [.ref apg, .int (nI P), .int ea, .int (nI K), .int (nI Hn), .int ym, .int tm, .ref arw, .ref ans, .ref aro, .ref abo, .int (nI ((fSeeM si K Sm k hd0 kept).2.1)), .ref asi, .int sd, .ref asv, .int kt, .int ky, .int (nI ks), .ref akr, .ref akn, .ref aks, .long ha])), (asi, .inl (cI, 24, .inl ((fSeeM si K Sm k hd0 kept).2.2)))]) [0, 1] (by decide) (by rw [e9]; try rfl)
          exact W.iret (v := nI (Sm + 1)) hx hb hr (fun t ht hW => ⟨⟨(nI (Sm + 1)), (), rfl, (by rw [e9]; try rfl), by rw [ht]; exact hP9, hD9⟩, hS.F ht⟩) hS.2.2 dX6_see_100
      · have n_32 := zn_eq (a := Sm) (b := 8) rfl rfl c_32 (by omega) (by omega)
        refine lv_bipush (v := (-104)) hx hb dX6_see_35 (by decide) ?_
        have e9 : (fSeeM si K Sm k hd0 kept) = ((-104), Sm, si) := (by unfold fSeeM; grind)
        have hP9 := hP.sub (ws' := [(mo, .inr (6, [.ref apg, .int (nI P), .int ea, .int (nI K), .int (nI Hn), .int ym, .int tm, .ref arw, .ref ans, .ref aro, .ref abo, .int (nI ((fSeeM si K Sm k hd0 kept).2.1)), .ref asi, .int sd, .ref asv, .int kt, .int ky, .int (nI ks), .ref akr, .ref akn, .ref aks, .long ha])), (asi, .inl (cI, 24, .inl ((fSeeM si K Sm k hd0 kept).2.2)))]) [0, 1] (by rw [e9]; try rfl)
        have hD9 := hD.sub (ws' := [(mo, .inr (6, [.ref apg, .int (nI P), .int ea, .int (nI K), .int (nI Hn), .int ym, .int tm, .ref arw, .ref ans, .ref aro, .ref abo, .int (nI ((fSeeM si K Sm k hd0 kept).2.1)), .ref asi, .int sd, .ref asv, .int kt, .int ky, .int (nI ks), .ref akr, .ref akn, .ref aks, .long ha])), (asi, .inl (cI, 24, .inl ((fSeeM si K Sm k hd0 kept).2.2)))]) [0, 1] (by decide) (by rw [e9]; try rfl)
        exact W.iret (v := (-104)) hx hb hr (fun t ht hW => ⟨⟨(-104), (), rfl, (by rw [e9]; try rfl), by rw [ht]; exact hP9, hD9⟩, hS.F ht⟩) hS.2.2 dX6_see_37
    · have c_20 := zb_0 c_20
      rw [zin (lo := 0) (hi := 9) (by decide) (by decide)] at c_20
      refine lv_bipush (v := (-102)) hx hb dX6_see_23 (by decide) ?_
      have e9 : (fSeeM si K Sm k hd0 kept) = ((-102), Sm, si) := (by unfold fSeeM; grind)
      have hP9 := hP.sub (ws' := [(mo, .inr (6, [.ref apg, .int (nI P), .int ea, .int (nI K), .int (nI Hn), .int ym, .int tm, .ref arw, .ref ans, .ref aro, .ref abo, .int (nI ((fSeeM si K Sm k hd0 kept).2.1)), .ref asi, .int sd, .ref asv, .int kt, .int ky, .int (nI ks), .ref akr, .ref akn, .ref aks, .long ha])), (asi, .inl (cI, 24, .inl ((fSeeM si K Sm k hd0 kept).2.2)))]) [0, 1] (by rw [e9]; try rfl)
      have hD9 := hD.sub (ws' := [(mo, .inr (6, [.ref apg, .int (nI P), .int ea, .int (nI K), .int (nI Hn), .int ym, .int tm, .ref arw, .ref ans, .ref aro, .ref abo, .int (nI ((fSeeM si K Sm k hd0 kept).2.1)), .ref asi, .int sd, .ref asv, .int kt, .int ky, .int (nI ks), .ref akr, .ref akn, .ref aks, .long ha])), (asi, .inl (cI, 24, .inl ((fSeeM si K Sm k hd0 kept).2.2)))]) [0, 1] (by decide) (by rw [e9]; try rfl)
      exact W.iret (v := (-102)) hx hb hr (fun t ht hW => ⟨⟨(-102), (), rfl, (by rw [e9]; try rfl), by rw [ht]; exact hP9, hD9⟩, hS.F ht⟩) hS.2.2 dX6_see_25
  · have c_5 := zb_0 c_5
    refine lv_bipush (v := (-101)) hx hb dX6_see_8 (by decide) ?_
    have e9 : (fSeeM si K Sm k hd0 kept) = ((-101), Sm, si) := (by unfold fSeeM; grind)
    have hP9 := hP.sub (ws' := [(mo, .inr (6, [.ref apg, .int (nI P), .int ea, .int (nI K), .int (nI Hn), .int ym, .int tm, .ref arw, .ref ans, .ref aro, .ref abo, .int (nI ((fSeeM si K Sm k hd0 kept).2.1)), .ref asi, .int sd, .ref asv, .int kt, .int ky, .int (nI ks), .ref akr, .ref akn, .ref aks, .long ha])), (asi, .inl (cI, 24, .inl ((fSeeM si K Sm k hd0 kept).2.2)))]) [0, 1] (by rw [e9]; try rfl)
    have hD9 := hD.sub (ws' := [(mo, .inr (6, [.ref apg, .int (nI P), .int ea, .int (nI K), .int (nI Hn), .int ym, .int tm, .ref arw, .ref ans, .ref aro, .ref abo, .int (nI ((fSeeM si K Sm k hd0 kept).2.1)), .ref asi, .int sd, .ref asv, .int kt, .int ky, .int (nI ks), .ref akr, .ref akn, .ref aks, .long ha])), (asi, .inl (cI, 24, .inl ((fSeeM si K Sm k hd0 kept).2.2)))]) [0, 1] (by decide) (by rw [e9]; try rfl)
    exact W.iret (v := (-101)) hx hb hr (fun t ht hW => ⟨⟨(-101), (), rfl, (by rw [e9]; try rfl), by rw [ht]; exact hP9, hD9⟩, hS.F ht⟩) hS.2.2 dX6_see_10

set_option maxHeartbeats 4000000 in
set_option maxRecDepth 100000 in
theorem c_X6_forget (l : Launch) (D : va_G) (cI cZ cA : ClassId) (sz : Nat) (mo : Nat) (apg : Nat) (P : Nat) (ea : Int32) (K : Nat) (Hn : Nat) (ym : Int32) (tm : Int32) (arw : Nat) (ans : Nat) (aro : Nat) (abo : Nat) (Sm : Nat) (asi : Nat) (sd : Int32) (asv : Nat) (kt : Int32) (ky : Int32) (ks : Nat) (akr : Nat) (akn : Nat) (aks : Nat) (ha : Int64)  : Met l yX6_forget wsX6_forget (zr 1) (va_Pc [.ref mo] (zPw D cI cZ cA [(mo, .inr (6, [.ref apg, .int (nI P), .int ea, .int (nI K), .int (nI Hn), .int ym, .int tm, .ref arw, .ref ans, .ref aro, .ref abo, .int (nI Sm), .ref asi, .int sd, .ref asv, .int kt, .int ky, .int (nI ks), .ref akr, .ref akn, .ref aks, .long ha]))] sz)) (va_Qi (fun (r : Int32) (_ : Unit) => r = nI Sm) (zB D [(mo, .inr (6, [.ref apg, .int (nI P), .int ea, .int (nI K), .int (nI Hn), .int ym, .int tm, .ref arw, .ref ans, .ref aro, .ref abo, .int (nI 0), .ref asi, .int sd, .ref asv, .int kt, .int ky, .int (nI ks), .ref akr, .ref akn, .ref aks, .long ha]))] (va_A [(mo, .inr (6, [.ref apg, .int (nI P), .int ea, .int (nI K), .int (nI Hn), .int ym, .int tm, .ref arw, .ref ans, .ref aro, .ref abo, .int (nI Sm), .ref asi, .int sd, .ref asv, .int kt, .int ky, .int (nI ks), .ref akr, .ref akn, .ref aks, .long ha]))] sz)) (va_A [(mo, .inr (6, [.ref apg, .int (nI P), .int ea, .int (nI K), .int (nI Hn), .int ym, .int tm, .ref arw, .ref ans, .ref aro, .ref abo, .int (nI Sm), .ref asi, .int sd, .ref asv, .int kt, .int ky, .int (nI ks), .ref akr, .ref akn, .ref aks, .long ha]))] sz)) 0 0 (va_A [(mo, .inr (6, [.ref apg, .int (nI P), .int ea, .int (nI K), .int (nI Hn), .int ym, .int tm, .ref arw, .ref ans, .ref aro, .ref abo, .int (nI Sm), .ref asi, .int sd, .ref asv, .int kt, .int ky, .int (nI ks), .ref akr, .ref akn, .ref aks, .long ha]))] sz) := by
  refine Met.ofW (cc := cX6_forget) (maxL := 2) (ret := (some .int)) (by decide) rfl ?_
  intro p e s m args below meth c s₁ B hml hv
  obtain ⟨rfl, hsz, hP, hD0, hE⟩ := hv
  have hx := B.exec
  have hb := B.bytes
  have hr := B.returns
  have hts := atoms_spec (ws := wsX6_forget) B.pre
  have hown : s.vm.findClass RX6 = some m.cls := findClass_of_methodNamed B.named
  have hlocks := B.notSynchronized
  subst hsz
  have hD := hD0.self (sz := s.heap.size)
  generalize hAe : va_A [(mo, .inr (6, [.ref apg, .int (nI P), .int ea, .int (nI K), .int (nI Hn), .int ym, .int tm, .ref arw, .ref ans, .ref aro, .ref abo, .int (nI Sm), .ref asi, .int sd, .ref asv, .int kt, .int ky, .int (nI ks), .ref akr, .ref akn, .ref aks, .long ha]))] s.heap.size = A at hD ⊢
  have hA : ∀ q : Nat, s.heap.size ≤ q → A q := fun q h => by rw [← hAe]; exact Or.inr h
  have hS : va_S A s.heap s.heap [] := va_S.rf
  have hP : va_P D vwCl [(mo, .inr (6, [.ref apg, .int (nI P), .int ea, .int (nI K), .int (nI Hn), .int ym, .int tm, .ref arw, .ref ans, .ref aro, .ref abo, .int (nI Sm), .ref asi, .int sd, .ref asv, .int kt, .int ky, .int (nI ks), .ref akr, .ref akn, .ref aks, .long ha]))] s.heap := hP
  have hD : va_D A [(mo, .inr (6, [.ref apg, .int (nI P), .int ea, .int (nI K), .int (nI Hn), .int ym, .int tm, .ref arw, .ref ans, .ref aro, .ref abo, .int (nI Sm), .ref asi, .int sd, .ref asv, .int kt, .int ky, .int (nI ks), .ref akr, .ref akn, .ref aks, .long ha]))] := hD
  have hl := lv_entry ([.ref mo]) (n := 2) (Nat.le_of_ble_eq_true rfl)
  rw [lg_entry_eq]
  generalize (lg_sl ([.ref mo]) ++ List.replicate (2 - (lg_sl ([.ref mo])).length) Slot.unset).toArray = ls at hl ⊢
  have hl : lv_has ls 2 [(0, .ref mo)] := hl
  have hinX6 : ∀ w ∈ wsX60, w ∈ wsX6_forget := fun w h => List.mem_cons_of_mem _ (List.mem_append_right _ h)
  have k_0 := hts (.fieldLink RX6 85 "VowDovesModel" "seenMany" "I") (by decide +kernel)
  refine lv_aload_n hx hb dX6_forget_0 rfl (lv_at hl 0 rfl) ?_
  refine va_get (D := D) (ci := 6) (v := .int (nI Sm)) (C := RX6) (T := TX6) (N := 22) hx hb hts hinX6 hown hE.1 hP 0 rfl rfl 11 (by decide) k_0 (fun _ h9 => h9) rfl dX6_forget_1 ?_
  refine lv_istore_n (lv' := [(1, .int (nI Sm)), (0, .ref mo)]) hx hb dX6_forget_4 rfl hl (by decide) rfl (fun ls hl => ?_)
  refine lv_aload_n hx hb dX6_forget_5 rfl (lv_at hl 1 rfl) ?_
  refine lv_iconst (v := 0) hx hb dX6_forget_6 (by decide) ?_
  refine va_put (D := D) (ci := 6) (v := .int 0) (ty := .int) (C := RX6) (T := TX6) (N := 22) hx hb hts hinX6 tyX6 tyX6_ok nmX6 hown hE.1 hP hD hS 0 rfl rfl 11 (by decide) k_0 (fun _ h9 => h9) rfl (by decide +kernel) rfl rfl (Nat.le_of_ble_eq_true rfl) dX6_forget_7 (fun H locs hP hD hS => ?_)
  have hP : va_P D vwCl [(mo, .inr (6, [.ref apg, .int (nI P), .int ea, .int (nI K), .int (nI Hn), .int ym, .int tm, .ref arw, .ref ans, .ref aro, .ref abo, .int 0, .ref asi, .int sd, .ref asv, .int kt, .int ky, .int (nI ks), .ref akr, .ref akn, .ref aks, .long ha]))] H := hP
  have hD : va_D A [(mo, .inr (6, [.ref apg, .int (nI P), .int ea, .int (nI K), .int (nI Hn), .int ym, .int tm, .ref arw, .ref ans, .ref aro, .ref abo, .int 0, .ref asi, .int sd, .ref asv, .int kt, .int ky, .int (nI ks), .ref akr, .ref akn, .ref aks, .long ha]))] := hD
  refine lv_iload_n hx hb dX6_forget_10 rfl (lv_at hl 0 rfl) ?_
  have hP9 := hP.sub (ws' := [(mo, .inr (6, [.ref apg, .int (nI P), .int ea, .int (nI K), .int (nI Hn), .int ym, .int tm, .ref arw, .ref ans, .ref aro, .ref abo, .int (nI 0), .ref asi, .int sd, .ref asv, .int kt, .int ky, .int (nI ks), .ref akr, .ref akn, .ref aks, .long ha]))]) [0] rfl
  have hD9 := hD.sub (ws' := [(mo, .inr (6, [.ref apg, .int (nI P), .int ea, .int (nI K), .int (nI Hn), .int ym, .int tm, .ref arw, .ref ans, .ref aro, .ref abo, .int (nI 0), .ref asi, .int sd, .ref asv, .int kt, .int ky, .int (nI ks), .ref akr, .ref akn, .ref aks, .long ha]))]) [0] (by decide) rfl
  exact W.iret (v := nI Sm) hx hb hr (fun t ht hW => ⟨⟨(nI Sm), (), rfl, rfl, by rw [ht]; exact hP9, hD9⟩, hS.F ht⟩) hS.2.2 dX6_forget_11

set_option maxHeartbeats 4000000 in
set_option maxRecDepth 100000 in
theorem c_X6_draw (l : Launch) (D : va_G) (cI cZ cA : ClassId) (sz : Nat) (mo : Nat) (apg : Nat) (P : Nat) (ea : Int32) (K : Nat) (Hn : Nat) (ym : Int32) (tm : Int32) (arw : Nat) (ans : Nat) (aro : Nat) (abo : Nat) (Sm : Nat) (asi : Nat) (sd : Int32) (asv : Nat) (kt : Int32) (ky : Int32) (ks : Nat) (akr : Nat) (akn : Nat) (aks : Nat) (ha : Int64)  : Met l yX6_draw wsX6_draw (zr 1) (va_Pc [.ref mo, .int 10] (zPw D cI cZ cA [(mo, .inr (6, [.ref apg, .int (nI P), .int ea, .int (nI K), .int (nI Hn), .int ym, .int tm, .ref arw, .ref ans, .ref aro, .ref abo, .int (nI Sm), .ref asi, .int sd, .ref asv, .int kt, .int ky, .int (nI ks), .ref akr, .ref akn, .ref aks, .long ha]))] sz)) (va_Qi (fun (r : Int32) (_ : Unit) => r = drM sd / 65536 - drM sd / 65536 / 10 * 10) (zB D [(mo, .inr (6, [.ref apg, .int (nI P), .int ea, .int (nI K), .int (nI Hn), .int ym, .int tm, .ref arw, .ref ans, .ref aro, .ref abo, .int (nI Sm), .ref asi, .int (drM sd), .ref asv, .int kt, .int ky, .int (nI ks), .ref akr, .ref akn, .ref aks, .long ha]))] (va_A [(mo, .inr (6, [.ref apg, .int (nI P), .int ea, .int (nI K), .int (nI Hn), .int ym, .int tm, .ref arw, .ref ans, .ref aro, .ref abo, .int (nI Sm), .ref asi, .int sd, .ref asv, .int kt, .int ky, .int (nI ks), .ref akr, .ref akn, .ref aks, .long ha]))] sz)) (va_A [(mo, .inr (6, [.ref apg, .int (nI P), .int ea, .int (nI K), .int (nI Hn), .int ym, .int tm, .ref arw, .ref ans, .ref aro, .ref abo, .int (nI Sm), .ref asi, .int sd, .ref asv, .int kt, .int ky, .int (nI ks), .ref akr, .ref akn, .ref aks, .long ha]))] sz)) 0 0 (va_A [(mo, .inr (6, [.ref apg, .int (nI P), .int ea, .int (nI K), .int (nI Hn), .int ym, .int tm, .ref arw, .ref ans, .ref aro, .ref abo, .int (nI Sm), .ref asi, .int sd, .ref asv, .int kt, .int ky, .int (nI ks), .ref akr, .ref akn, .ref aks, .long ha]))] sz) := by
  refine Met.ofW (cc := cX6_draw) (maxL := 2) (ret := (some .int)) (by decide) rfl ?_
  intro p e s m args below meth c s₁ B hml hv
  obtain ⟨rfl, hsz, hP, hD0, hE⟩ := hv
  have hx := B.exec
  have hb := B.bytes
  have hr := B.returns
  have hts := atoms_spec (ws := wsX6_draw) B.pre
  have hown : s.vm.findClass RX6 = some m.cls := findClass_of_methodNamed B.named
  have hlocks := B.notSynchronized
  subst hsz
  have hD := hD0.self (sz := s.heap.size)
  generalize hAe : va_A [(mo, .inr (6, [.ref apg, .int (nI P), .int ea, .int (nI K), .int (nI Hn), .int ym, .int tm, .ref arw, .ref ans, .ref aro, .ref abo, .int (nI Sm), .ref asi, .int sd, .ref asv, .int kt, .int ky, .int (nI ks), .ref akr, .ref akn, .ref aks, .long ha]))] s.heap.size = A at hD ⊢
  have hA : ∀ q : Nat, s.heap.size ≤ q → A q := fun q h => by rw [← hAe]; exact Or.inr h
  have hS : va_S A s.heap s.heap [] := va_S.rf
  have hP : va_P D vwCl [(mo, .inr (6, [.ref apg, .int (nI P), .int ea, .int (nI K), .int (nI Hn), .int ym, .int tm, .ref arw, .ref ans, .ref aro, .ref abo, .int (nI Sm), .ref asi, .int sd, .ref asv, .int kt, .int ky, .int (nI ks), .ref akr, .ref akn, .ref aks, .long ha]))] s.heap := hP
  have hD : va_D A [(mo, .inr (6, [.ref apg, .int (nI P), .int ea, .int (nI K), .int (nI Hn), .int ym, .int tm, .ref arw, .ref ans, .ref aro, .ref abo, .int (nI Sm), .ref asi, .int sd, .ref asv, .int kt, .int ky, .int (nI ks), .ref akr, .ref akn, .ref aks, .long ha]))] := hD
  have hl := lv_entry ([.ref mo, .int 10]) (n := 2) (Nat.le_of_ble_eq_true rfl)
  rw [lg_entry_eq]
  generalize (lg_sl ([.ref mo, .int 10]) ++ List.replicate (2 - (lg_sl ([.ref mo, .int 10])).length) Slot.unset).toArray = ls at hl ⊢
  have hl : lv_has ls 2 [(0, .ref mo), (1, .int 10)] := hl
  have hinX6 : ∀ w ∈ wsX60, w ∈ wsX6_draw := fun w h => List.mem_cons_of_mem _ (List.mem_append_right _ h)
  have k_0 := hts (.constantLong RX6 173 (1103515245)) (by decide +kernel)
  have k_1 := hts (.fieldLink RX6 175 "VowDovesModel" "seedNow" "I") (by decide +kernel)
  have k_2 := hts (.constantLong RX6 178 (12345)) (by decide +kernel)
  have k_3 := hts (.constantLong RX6 180 (2147483647)) (by decide +kernel)
  have k_4 := hts (.constant RX6 182 (65536)) (by decide +kernel)
  refine lv_aload_n hx hb dX6_draw_0 rfl (lv_at hl 0 rfl) ?_
  refine lv_ldc2 (v := 1103515245) hx hb hown k_0 dX6_draw_1 ?_
  refine lv_aload_n hx hb dX6_draw_4 rfl (lv_at hl 0 rfl) ?_
  refine va_get (D := D) (ci := 6) (v := .int sd) (C := RX6) (T := TX6) (N := 22) hx hb hts hinX6 hown hE.1 hP 0 rfl rfl 13 (by decide) k_1 (fun _ h9 => h9) rfl dX6_draw_5 ?_
  refine lv_i2l (v := (sd : Int32).toInt64) hx hb dX6_draw_8 rfl ?_
  refine lv_lmul hx hb dX6_draw_9 ?_
  refine lv_ldc2 (v := 12345) hx hb hown k_2 dX6_draw_10 ?_
  refine lv_ladd hx hb dX6_draw_13 ?_
  refine lv_ldc2 (v := 2147483647) hx hb hown k_3 dX6_draw_14 ?_
  refine lv_land hx hb dX6_draw_17 ?_
  refine lv_l2i (v := (((1103515245 * ((sd : Int32).toInt64)) + 12345) &&& 2147483647 : Int64).toInt32) hx hb dX6_draw_18 rfl ?_
  refine va_put (D := D) (ci := 6) (v := .int ((((1103515245 * ((sd : Int32).toInt64)) + 12345) &&& 2147483647 : Int64).toInt32)) (ty := .int) (C := RX6) (T := TX6) (N := 22) hx hb hts hinX6 tyX6 tyX6_ok nmX6 hown hE.1 hP hD hS 0 rfl rfl 13 (by decide) k_1 (fun _ h9 => h9) rfl (by decide +kernel) rfl rfl (Nat.le_of_ble_eq_true rfl) dX6_draw_19 (fun H locs hP hD hS => ?_)
  have hP : va_P D vwCl [(mo, .inr (6, [.ref apg, .int (nI P), .int ea, .int (nI K), .int (nI Hn), .int ym, .int tm, .ref arw, .ref ans, .ref aro, .ref abo, .int (nI Sm), .ref asi, .int ((((1103515245 * ((sd : Int32).toInt64)) + 12345) &&& 2147483647 : Int64).toInt32), .ref asv, .int kt, .int ky, .int (nI ks), .ref akr, .ref akn, .ref aks, .long ha]))] H := hP
  have hD : va_D A [(mo, .inr (6, [.ref apg, .int (nI P), .int ea, .int (nI K), .int (nI Hn), .int ym, .int tm, .ref arw, .ref ans, .ref aro, .ref abo, .int (nI Sm), .ref asi, .int ((((1103515245 * ((sd : Int32).toInt64)) + 12345) &&& 2147483647 : Int64).toInt32), .ref asv, .int kt, .int ky, .int (nI ks), .ref akr, .ref akn, .ref aks, .long ha]))] := hD
  refine lv_aload_n hx hb dX6_draw_22 rfl (lv_at hl 0 rfl) ?_
  refine va_get (D := D) (ci := 6) (v := .int ((((1103515245 * ((sd : Int32).toInt64)) + 12345) &&& 2147483647 : Int64).toInt32)) (C := RX6) (T := TX6) (N := 22) hx hb hts hinX6 hown hE.1 hP 0 rfl rfl 13 (by decide) k_1 (fun _ h9 => h9) rfl dX6_draw_23 ?_
  refine lv_ldc (v := 65536) hx hb hown k_4 dX6_draw_26 ?_
  refine lv_idiv hx hb dX6_draw_28 (by decide) ?_
  refine lv_iload_n hx hb dX6_draw_29 rfl (lv_at hl 1 rfl) ?_
  refine lv_irem hx hb dX6_draw_30 (by decide) ?_
  have hP9 := hP.sub (ws' := [(mo, .inr (6, [.ref apg, .int (nI P), .int ea, .int (nI K), .int (nI Hn), .int ym, .int tm, .ref arw, .ref ans, .ref aro, .ref abo, .int (nI Sm), .ref asi, .int (drM sd), .ref asv, .int kt, .int ky, .int (nI ks), .ref akr, .ref akn, .ref aks, .long ha]))]) [0] rfl
  have hD9 := hD.sub (ws' := [(mo, .inr (6, [.ref apg, .int (nI P), .int ea, .int (nI K), .int (nI Hn), .int ym, .int tm, .ref arw, .ref ans, .ref aro, .ref abo, .int (nI Sm), .ref asi, .int (drM sd), .ref asv, .int kt, .int ky, .int (nI ks), .ref akr, .ref akn, .ref aks, .long ha]))]) [0] (by decide) rfl
  exact W.iret (v := (((((1103515245 * ((sd : Int32).toInt64)) + 12345) &&& 2147483647 : Int64).toInt32) / 65536) - (((((1103515245 * ((sd : Int32).toInt64)) + 12345) &&& 2147483647 : Int64).toInt32) / 65536) / 10 * 10) hx hb hr (fun t ht hW => ⟨⟨((((((1103515245 * ((sd : Int32).toInt64)) + 12345) &&& 2147483647 : Int64).toInt32) / 65536) - (((((1103515245 * ((sd : Int32).toInt64)) + 12345) &&& 2147483647 : Int64).toInt32) / 65536) / 10 * 10), (), rfl, rfl, by rw [ht]; exact hP9, hD9⟩, hS.F ht⟩) hS.2.2 dX6_draw_31

set_option maxHeartbeats 4000000 in
set_option maxRecDepth 100000 in
theorem c_X6_image (l : Launch) (D : va_G) (cI cZ cA : ClassId) (sz : Nat) (mo : Nat) (apg : Nat) (P : Nat) (ea : Int32) (K : Nat) (Hn : Nat) (ym : Int32) (tm : Int32) (arw : Nat) (ans : Nat) (aro : Nat) (abo : Nat) (Sm : Nat) (asi : Nat) (sd : Int32) (asv : Nat) (kt : Int32) (ky : Int32) (ks : Nat) (akr : Nat) (akn : Nat) (aks : Nat) (ha : Int64) (rw : Nat → Int32) (ns : Nat → Int32) (si : Nat → Int32) (kr : Nat → Int32) (kn : Nat → Int32) (kss : Nat → Int32) (hH : Hn ≤ 5) : Met l yX6_image wsX6_image (zr 2) (va_Pc [.ref mo] (zPw D cI cZ cA [(mo, .inr (6, [.ref apg, .int (nI P), .int ea, .int (nI K), .int (nI Hn), .int ym, .int tm, .ref arw, .ref ans, .ref aro, .ref abo, .int (nI Sm), .ref asi, .int sd, .ref asv, .int kt, .int ky, .int (nI ks), .ref akr, .ref akn, .ref aks, .long ha])), (arw, .inl (cI, 15, .inl rw)), (ans, .inl (cI, 20, .inl ns)), (asi, .inl (cI, 24, .inl si)), (akr, .inl (cI, 15, .inl kr)), (akn, .inl (cI, 20, .inl kn)), (aks, .inl (cI, 24, .inl kss))] sz)) (va_Qi (fun (r : Int32) (_ : Unit) => r = (fImgM Hn kt ky ks kr kn kss ym tm Sm rw ns si).1) (zB D [(mo, .inr (6, [.ref apg, .int (nI P), .int ea, .int (nI K), .int (nI Hn), .int ym, .int tm, .ref arw, .ref ans, .ref aro, .ref abo, .int (nI Sm), .ref asi, .int sd, .ref asv, .int ((fImgM Hn kt ky ks kr kn kss ym tm Sm rw ns si).2.1), .int ((fImgM Hn kt ky ks kr kn kss ym tm Sm rw ns si).2.2.1), .int (nI ((fImgM Hn kt ky ks kr kn kss ym tm Sm rw ns si).2.2.2.1)), .ref akr, .ref akn, .ref aks, .long ha])), (arw, .inl (cI, 15, .inl rw)), (ans, .inl (cI, 20, .inl ns)), (asi, .inl (cI, 24, .inl si)), (akr, .inl (cI, 15, .inl ((fImgM Hn kt ky ks kr kn kss ym tm Sm rw ns si).2.2.2.2.1))), (akn, .inl (cI, 20, .inl ((fImgM Hn kt ky ks kr kn kss ym tm Sm rw ns si).2.2.2.2.2.1))), (aks, .inl (cI, 24, .inl ((fImgM Hn kt ky ks kr kn kss ym tm Sm rw ns si).2.2.2.2.2.2)))] (va_A [(mo, .inr (6, [.ref apg, .int (nI P), .int ea, .int (nI K), .int (nI Hn), .int ym, .int tm, .ref arw, .ref ans, .ref aro, .ref abo, .int (nI Sm), .ref asi, .int sd, .ref asv, .int kt, .int ky, .int (nI ks), .ref akr, .ref akn, .ref aks, .long ha])), (arw, .inl (cI, 15, .inl rw)), (ans, .inl (cI, 20, .inl ns)), (asi, .inl (cI, 24, .inl si)), (akr, .inl (cI, 15, .inl kr)), (akn, .inl (cI, 20, .inl kn)), (aks, .inl (cI, 24, .inl kss))] sz)) (va_A [(mo, .inr (6, [.ref apg, .int (nI P), .int ea, .int (nI K), .int (nI Hn), .int ym, .int tm, .ref arw, .ref ans, .ref aro, .ref abo, .int (nI Sm), .ref asi, .int sd, .ref asv, .int kt, .int ky, .int (nI ks), .ref akr, .ref akn, .ref aks, .long ha])), (arw, .inl (cI, 15, .inl rw)), (ans, .inl (cI, 20, .inl ns)), (asi, .inl (cI, 24, .inl si)), (akr, .inl (cI, 15, .inl kr)), (akn, .inl (cI, 20, .inl kn)), (aks, .inl (cI, 24, .inl kss))] sz)) 0 0 (va_A [(mo, .inr (6, [.ref apg, .int (nI P), .int ea, .int (nI K), .int (nI Hn), .int ym, .int tm, .ref arw, .ref ans, .ref aro, .ref abo, .int (nI Sm), .ref asi, .int sd, .ref asv, .int kt, .int ky, .int (nI ks), .ref akr, .ref akn, .ref aks, .long ha])), (arw, .inl (cI, 15, .inl rw)), (ans, .inl (cI, 20, .inl ns)), (asi, .inl (cI, 24, .inl si)), (akr, .inl (cI, 15, .inl kr)), (akn, .inl (cI, 20, .inl kn)), (aks, .inl (cI, 24, .inl kss))] sz) := by
  refine Met.ofW (cc := cX6_image) (maxL := 1) (ret := (some .int)) (by decide) rfl ?_
  intro p e s m args below meth c s₁ B hml hv
  obtain ⟨rfl, hsz, hP, hD0, hE⟩ := hv
  have hx := B.exec
  have hb := B.bytes
  have hr := B.returns
  have hts := atoms_spec (ws := wsX6_image) B.pre
  have hown : s.vm.findClass RX6 = some m.cls := findClass_of_methodNamed B.named
  have hlocks := B.notSynchronized
  subst hsz
  have hD := hD0.self (sz := s.heap.size)
  generalize hAe : va_A [(mo, .inr (6, [.ref apg, .int (nI P), .int ea, .int (nI K), .int (nI Hn), .int ym, .int tm, .ref arw, .ref ans, .ref aro, .ref abo, .int (nI Sm), .ref asi, .int sd, .ref asv, .int kt, .int ky, .int (nI ks), .ref akr, .ref akn, .ref aks, .long ha])), (arw, .inl (cI, 15, .inl rw)), (ans, .inl (cI, 20, .inl ns)), (asi, .inl (cI, 24, .inl si)), (akr, .inl (cI, 15, .inl kr)), (akn, .inl (cI, 20, .inl kn)), (aks, .inl (cI, 24, .inl kss))] s.heap.size = A at hD ⊢
  have hA : ∀ q : Nat, s.heap.size ≤ q → A q := fun q h => by rw [← hAe]; exact Or.inr h
  have hS : va_S A s.heap s.heap [] := va_S.rf
  have hP : va_P D vwCl [(mo, .inr (6, [.ref apg, .int (nI P), .int ea, .int (nI K), .int (nI Hn), .int ym, .int tm, .ref arw, .ref ans, .ref aro, .ref abo, .int (nI Sm), .ref asi, .int sd, .ref asv, .int kt, .int ky, .int (nI ks), .ref akr, .ref akn, .ref aks, .long ha])), (arw, .inl (cI, 15, .inl rw)), (ans, .inl (cI, 20, .inl ns)), (asi, .inl (cI, 24, .inl si)), (akr, .inl (cI, 15, .inl kr)), (akn, .inl (cI, 20, .inl kn)), (aks, .inl (cI, 24, .inl kss))] s.heap := hP
  have hD : va_D A [(mo, .inr (6, [.ref apg, .int (nI P), .int ea, .int (nI K), .int (nI Hn), .int ym, .int tm, .ref arw, .ref ans, .ref aro, .ref abo, .int (nI Sm), .ref asi, .int sd, .ref asv, .int kt, .int ky, .int (nI ks), .ref akr, .ref akn, .ref aks, .long ha])), (arw, .inl (cI, 15, .inl rw)), (ans, .inl (cI, 20, .inl ns)), (asi, .inl (cI, 24, .inl si)), (akr, .inl (cI, 15, .inl kr)), (akn, .inl (cI, 20, .inl kn)), (aks, .inl (cI, 24, .inl kss))] := hD
  have hl := lv_entry ([.ref mo]) (n := 1) (Nat.le_of_ble_eq_true rfl)
  rw [lg_entry_eq]
  generalize (lg_sl ([.ref mo]) ++ List.replicate (1 - (lg_sl ([.ref mo])).length) Slot.unset).toArray = ls at hl ⊢
  have hl : lv_has ls 1 [(0, .ref mo)] := hl
  have hinX6 : ∀ w ∈ wsX60, w ∈ wsX6_image := fun w h => List.mem_cons_of_mem _ (List.mem_append_right _ h)
  have k_0 := hts (.fieldLink RX6 13 "VowDovesModel" "rows" "[I") (by decide +kernel)
  have k_1 := hts (.fieldLink RX6 31 "VowDovesModel" "keptRows" "[I") (by decide +kernel)
  have k_2 := hts (.fieldLink RX6 16 "VowDovesModel" "nests" "[I") (by decide +kernel)
  have k_3 := hts (.fieldLink RX6 34 "VowDovesModel" "keptNests" "[I") (by decide +kernel)
  have k_4 := hts (.fieldLink RX6 25 "VowDovesModel" "sights" "[I") (by decide +kernel)
  have k_5 := hts (.fieldLink RX6 37 "VowDovesModel" "keptSights" "[I") (by decide +kernel)
  have k_6 := hts (.fieldLink RX6 82 "VowDovesModel" "years" "I") (by decide +kernel)
  have k_7 := hts (.fieldLink RX6 188 "VowDovesModel" "keptYears" "I") (by decide +kernel)
  have k_8 := hts (.fieldLink RX6 85 "VowDovesModel" "seenMany" "I") (by decide +kernel)
  have k_9 := hts (.fieldLink RX6 191 "VowDovesModel" "keptSeen" "I") (by decide +kernel)
  have k_10 := hts (.fieldLink RX6 88 "VowDovesModel" "towersRead" "I") (by decide +kernel)
  have k_11 := hts (.fieldLink RX6 40 "VowDovesModel" "keptTower" "I") (by decide +kernel)
  refine lv_aload_n hx hb dX6_image_0 rfl (lv_at hl 0 rfl) ?_
  refine z_roVi (As := []) (rest := []) ⟨hx, hb, hml, hown, hts⟩ (c_X6_lacks l D cI cZ cA mo apg P ea K Hn ym tm arw ans aro abo Sm asi sd asv kt ky ks akr akn aks ha (by first | assumption | omega)) (cwV 0 hts gX6_image_X6_lacks rfl rfl rfl (by decide +kernel) ⟨Nat.le_of_ble_eq_true rfl, Nat.le_of_ble_eq_true rfl⟩) hE hP [0] rfl 0 6 rfl rfl rfl hl.1 rfl (Nat.le_of_ble_eq_true rfl) dX6_image_1 ⟨Nat.zero_le _, Nat.zero_le _⟩ ?_
  refine lv_if_eq (tgt := 10) hx hb dX6_image_4 (by decide) (fun c_4 => ?_) (fun c_4 => ?_)
  · have c_4 := zb_0 c_4
    refine lv_aload_n hx hb dX6_image_10 rfl (lv_at hl 0 rfl) ?_
    refine va_get (D := D) (ci := 6) (v := .ref arw) (C := RX6) (T := TX6) (N := 22) hx hb hts hinX6 hown hE.1 hP 0 rfl rfl 7 (by decide) k_0 (fun _ h9 => h9) rfl dX6_image_11 ?_
    refine lv_aload_n hx hb dX6_image_14 rfl (lv_at hl 0 rfl) ?_
    refine va_get (D := D) (ci := 6) (v := .ref akr) (C := RX6) (T := TX6) (N := 22) hx hb hts hinX6 hown hE.1 hP 0 rfl rfl 18 (by decide) k_1 (fun _ h9 => h9) rfl dX6_image_15 ?_
    refine z_rwSv (As := [.ref arw, .ref akr]) (rest := []) (wr := [(mo, .inr (6, [.ref apg, .int (nI P), .int ea, .int (nI K), .int (nI Hn), .int ym, .int tm, .ref arw, .ref ans, .ref aro, .ref abo, .int (nI Sm), .ref asi, .int sd, .ref asv, .int kt, .int ky, .int (nI ks), .ref akr, .ref akn, .ref aks, .long ha])), (ans, .inl (cI, 20, .inl ns)), (asi, .inl (cI, 24, .inl si)), (akn, .inl (cI, 20, .inl kn)), (aks, .inl (cI, 24, .inl kss))]) (w1 := [(arw, .inl (cI, 15, .inl rw)), (akr, .inl (cI, 15, .inl rw))]) ⟨hx, hb, hml, hown, hts⟩ (c_X6_copy l D cI cZ cA _ arw akr 15 rw kr (by first | assumption | omega)) (va_cwS 2 hts gX6_image_X6_copy rfl rfl rfl (by decide +kernel) ⟨Nat.le_of_ble_eq_true rfl, Nat.le_of_ble_eq_true rfl⟩) hE hP hD hS hA [1, 4] [0, 2, 3, 5, 6] rfl rfl rfl (by decide) (by decide) (by decide) rfl hl.1 rfl (Nat.le_of_ble_eq_true rfl) dX6_image_18 ⟨Nat.zero_le _, Nat.zero_le _⟩ (fun H locs hP hD hS => ?_)
    have hP : va_P D vwCl [(mo, .inr (6, [.ref apg, .int (nI P), .int ea, .int (nI K), .int (nI Hn), .int ym, .int tm, .ref arw, .ref ans, .ref aro, .ref abo, .int (nI Sm), .ref asi, .int sd, .ref asv, .int kt, .int ky, .int (nI ks), .ref akr, .ref akn, .ref aks, .long ha])), (ans, .inl (cI, 20, .inl ns)), (asi, .inl (cI, 24, .inl si)), (akn, .inl (cI, 20, .inl kn)), (aks, .inl (cI, 24, .inl kss)), (arw, .inl (cI, 15, .inl rw)), (akr, .inl (cI, 15, .inl rw))] H := hP
    have hD : va_D A [(mo, .inr (6, [.ref apg, .int (nI P), .int ea, .int (nI K), .int (nI Hn), .int ym, .int tm, .ref arw, .ref ans, .ref aro, .ref abo, .int (nI Sm), .ref asi, .int sd, .ref asv, .int kt, .int ky, .int (nI ks), .ref akr, .ref akn, .ref aks, .long ha])), (ans, .inl (cI, 20, .inl ns)), (asi, .inl (cI, 24, .inl si)), (akn, .inl (cI, 20, .inl kn)), (aks, .inl (cI, 24, .inl kss)), (arw, .inl (cI, 15, .inl rw)), (akr, .inl (cI, 15, .inl rw))] := hD
    refine lv_aload_n hx hb dX6_image_21 rfl (lv_at hl 0 rfl) ?_
    refine va_get (D := D) (ci := 6) (v := .ref ans) (C := RX6) (T := TX6) (N := 22) hx hb hts hinX6 hown hE.1 hP 0 rfl rfl 8 (by decide) k_2 (fun _ h9 => h9) rfl dX6_image_22 ?_
    refine lv_aload_n hx hb dX6_image_25 rfl (lv_at hl 0 rfl) ?_
    refine va_get (D := D) (ci := 6) (v := .ref akn) (C := RX6) (T := TX6) (N := 22) hx hb hts hinX6 hown hE.1 hP 0 rfl rfl 19 (by decide) k_3 (fun _ h9 => h9) rfl dX6_image_26 ?_
    refine z_rwSv (As := [.ref ans, .ref akn]) (rest := []) (wr := [(mo, .inr (6, [.ref apg, .int (nI P), .int ea, .int (nI K), .int (nI Hn), .int ym, .int tm, .ref arw, .ref ans, .ref aro, .ref abo, .int (nI Sm), .ref asi, .int sd, .ref asv, .int kt, .int ky, .int (nI ks), .ref akr, .ref akn, .ref aks, .long ha])), (asi, .inl (cI, 24, .inl si)), (aks, .inl (cI, 24, .inl kss)), (arw, .inl (cI, 15, .inl rw)), (akr, .inl (cI, 15, .inl rw))]) (w1 := [(ans, .inl (cI, 20, .inl ns)), (akn, .inl (cI, 20, .inl ns))]) ⟨hx, hb, hml, hown, hts⟩ (c_X6_copy l D cI cZ cA _ ans akn 20 ns kn (by first | assumption | omega)) (va_cwS 2 hts gX6_image_X6_copy rfl rfl rfl (by decide +kernel) ⟨Nat.le_of_ble_eq_true rfl, Nat.le_of_ble_eq_true rfl⟩) hE hP hD hS hA [1, 3] [0, 2, 4, 5, 6] rfl rfl rfl (by decide) (by decide) (by decide) rfl hl.1 rfl (Nat.le_of_ble_eq_true rfl) dX6_image_29 ⟨Nat.zero_le _, Nat.zero_le _⟩ (fun H locs hP hD hS => ?_)
    have hP : va_P D vwCl [(mo, .inr (6, [.ref apg, .int (nI P), .int ea, .int (nI K), .int (nI Hn), .int ym, .int tm, .ref arw, .ref ans, .ref aro, .ref abo, .int (nI Sm), .ref asi, .int sd, .ref asv, .int kt, .int ky, .int (nI ks), .ref akr, .ref akn, .ref aks, .long ha])), (asi, .inl (cI, 24, .inl si)), (aks, .inl (cI, 24, .inl kss)), (arw, .inl (cI, 15, .inl rw)), (akr, .inl (cI, 15, .inl rw)), (ans, .inl (cI, 20, .inl ns)), (akn, .inl (cI, 20, .inl ns))] H := hP
    have hD : va_D A [(mo, .inr (6, [.ref apg, .int (nI P), .int ea, .int (nI K), .int (nI Hn), .int ym, .int tm, .ref arw, .ref ans, .ref aro, .ref abo, .int (nI Sm), .ref asi, .int sd, .ref asv, .int kt, .int ky, .int (nI ks), .ref akr, .ref akn, .ref aks, .long ha])), (asi, .inl (cI, 24, .inl si)), (aks, .inl (cI, 24, .inl kss)), (arw, .inl (cI, 15, .inl rw)), (akr, .inl (cI, 15, .inl rw)), (ans, .inl (cI, 20, .inl ns)), (akn, .inl (cI, 20, .inl ns))] := hD
    refine lv_aload_n hx hb dX6_image_32 rfl (lv_at hl 0 rfl) ?_
    refine va_get (D := D) (ci := 6) (v := .ref asi) (C := RX6) (T := TX6) (N := 22) hx hb hts hinX6 hown hE.1 hP 0 rfl rfl 12 (by decide) k_4 (fun _ h9 => h9) rfl dX6_image_33 ?_
    refine lv_aload_n hx hb dX6_image_36 rfl (lv_at hl 0 rfl) ?_
    refine va_get (D := D) (ci := 6) (v := .ref aks) (C := RX6) (T := TX6) (N := 22) hx hb hts hinX6 hown hE.1 hP 0 rfl rfl 20 (by decide) k_5 (fun _ h9 => h9) rfl dX6_image_37 ?_
    refine z_rwSv (As := [.ref asi, .ref aks]) (rest := []) (wr := [(mo, .inr (6, [.ref apg, .int (nI P), .int ea, .int (nI K), .int (nI Hn), .int ym, .int tm, .ref arw, .ref ans, .ref aro, .ref abo, .int (nI Sm), .ref asi, .int sd, .ref asv, .int kt, .int ky, .int (nI ks), .ref akr, .ref akn, .ref aks, .long ha])), (arw, .inl (cI, 15, .inl rw)), (akr, .inl (cI, 15, .inl rw)), (ans, .inl (cI, 20, .inl ns)), (akn, .inl (cI, 20, .inl ns))]) (w1 := [(asi, .inl (cI, 24, .inl si)), (aks, .inl (cI, 24, .inl si))]) ⟨hx, hb, hml, hown, hts⟩ (c_X6_copy l D cI cZ cA _ asi aks 24 si kss (by first | assumption | omega)) (va_cwS 2 hts gX6_image_X6_copy rfl rfl rfl (by decide +kernel) ⟨Nat.le_of_ble_eq_true rfl, Nat.le_of_ble_eq_true rfl⟩) hE hP hD hS hA [1, 2] [0, 3, 4, 5, 6] rfl rfl rfl (by decide) (by decide) (by decide) rfl hl.1 rfl (Nat.le_of_ble_eq_true rfl) dX6_image_40 ⟨Nat.zero_le _, Nat.zero_le _⟩ (fun H locs hP hD hS => ?_)
    have hP : va_P D vwCl [(mo, .inr (6, [.ref apg, .int (nI P), .int ea, .int (nI K), .int (nI Hn), .int ym, .int tm, .ref arw, .ref ans, .ref aro, .ref abo, .int (nI Sm), .ref asi, .int sd, .ref asv, .int kt, .int ky, .int (nI ks), .ref akr, .ref akn, .ref aks, .long ha])), (arw, .inl (cI, 15, .inl rw)), (akr, .inl (cI, 15, .inl rw)), (ans, .inl (cI, 20, .inl ns)), (akn, .inl (cI, 20, .inl ns)), (asi, .inl (cI, 24, .inl si)), (aks, .inl (cI, 24, .inl si))] H := hP
    have hD : va_D A [(mo, .inr (6, [.ref apg, .int (nI P), .int ea, .int (nI K), .int (nI Hn), .int ym, .int tm, .ref arw, .ref ans, .ref aro, .ref abo, .int (nI Sm), .ref asi, .int sd, .ref asv, .int kt, .int ky, .int (nI ks), .ref akr, .ref akn, .ref aks, .long ha])), (arw, .inl (cI, 15, .inl rw)), (akr, .inl (cI, 15, .inl rw)), (ans, .inl (cI, 20, .inl ns)), (akn, .inl (cI, 20, .inl ns)), (asi, .inl (cI, 24, .inl si)), (aks, .inl (cI, 24, .inl si))] := hD
    refine lv_aload_n hx hb dX6_image_43 rfl (lv_at hl 0 rfl) ?_
    refine lv_aload_n hx hb dX6_image_44 rfl (lv_at hl 0 rfl) ?_
    refine va_get (D := D) (ci := 6) (v := .int ym) (C := RX6) (T := TX6) (N := 22) hx hb hts hinX6 hown hE.1 hP 0 rfl rfl 5 (by decide) k_6 (fun _ h9 => h9) rfl dX6_image_45 ?_
    refine va_put (D := D) (ci := 6) (v := .int ym) (ty := .int) (C := RX6) (T := TX6) (N := 22) hx hb hts hinX6 tyX6 tyX6_ok nmX6 hown hE.1 hP hD hS 0 rfl rfl 16 (by decide) k_7 (fun _ h9 => h9) rfl (by decide +kernel) rfl rfl (Nat.le_of_ble_eq_true rfl) dX6_image_48 (fun H locs hP hD hS => ?_)
    have hP : va_P D vwCl [(mo, .inr (6, [.ref apg, .int (nI P), .int ea, .int (nI K), .int (nI Hn), .int ym, .int tm, .ref arw, .ref ans, .ref aro, .ref abo, .int (nI Sm), .ref asi, .int sd, .ref asv, .int kt, .int ym, .int (nI ks), .ref akr, .ref akn, .ref aks, .long ha])), (arw, .inl (cI, 15, .inl rw)), (akr, .inl (cI, 15, .inl rw)), (ans, .inl (cI, 20, .inl ns)), (akn, .inl (cI, 20, .inl ns)), (asi, .inl (cI, 24, .inl si)), (aks, .inl (cI, 24, .inl si))] H := hP
    have hD : va_D A [(mo, .inr (6, [.ref apg, .int (nI P), .int ea, .int (nI K), .int (nI Hn), .int ym, .int tm, .ref arw, .ref ans, .ref aro, .ref abo, .int (nI Sm), .ref asi, .int sd, .ref asv, .int kt, .int ym, .int (nI ks), .ref akr, .ref akn, .ref aks, .long ha])), (arw, .inl (cI, 15, .inl rw)), (akr, .inl (cI, 15, .inl rw)), (ans, .inl (cI, 20, .inl ns)), (akn, .inl (cI, 20, .inl ns)), (asi, .inl (cI, 24, .inl si)), (aks, .inl (cI, 24, .inl si))] := hD
    refine lv_aload_n hx hb dX6_image_51 rfl (lv_at hl 0 rfl) ?_
    refine lv_aload_n hx hb dX6_image_52 rfl (lv_at hl 0 rfl) ?_
    refine va_get (D := D) (ci := 6) (v := .int (nI Sm)) (C := RX6) (T := TX6) (N := 22) hx hb hts hinX6 hown hE.1 hP 0 rfl rfl 11 (by decide) k_8 (fun _ h9 => h9) rfl dX6_image_53 ?_
    refine va_put (D := D) (ci := 6) (v := .int (nI Sm)) (ty := .int) (C := RX6) (T := TX6) (N := 22) hx hb hts hinX6 tyX6 tyX6_ok nmX6 hown hE.1 hP hD hS 0 rfl rfl 17 (by decide) k_9 (fun _ h9 => h9) rfl (by decide +kernel) rfl rfl (Nat.le_of_ble_eq_true rfl) dX6_image_56 (fun H locs hP hD hS => ?_)
    have hP : va_P D vwCl [(mo, .inr (6, [.ref apg, .int (nI P), .int ea, .int (nI K), .int (nI Hn), .int ym, .int tm, .ref arw, .ref ans, .ref aro, .ref abo, .int (nI Sm), .ref asi, .int sd, .ref asv, .int kt, .int ym, .int (nI Sm), .ref akr, .ref akn, .ref aks, .long ha])), (arw, .inl (cI, 15, .inl rw)), (akr, .inl (cI, 15, .inl rw)), (ans, .inl (cI, 20, .inl ns)), (akn, .inl (cI, 20, .inl ns)), (asi, .inl (cI, 24, .inl si)), (aks, .inl (cI, 24, .inl si))] H := hP
    have hD : va_D A [(mo, .inr (6, [.ref apg, .int (nI P), .int ea, .int (nI K), .int (nI Hn), .int ym, .int tm, .ref arw, .ref ans, .ref aro, .ref abo, .int (nI Sm), .ref asi, .int sd, .ref asv, .int kt, .int ym, .int (nI Sm), .ref akr, .ref akn, .ref aks, .long ha])), (arw, .inl (cI, 15, .inl rw)), (akr, .inl (cI, 15, .inl rw)), (ans, .inl (cI, 20, .inl ns)), (akn, .inl (cI, 20, .inl ns)), (asi, .inl (cI, 24, .inl si)), (aks, .inl (cI, 24, .inl si))] := hD
    refine lv_aload_n hx hb dX6_image_59 rfl (lv_at hl 0 rfl) ?_
    refine lv_aload_n hx hb dX6_image_60 rfl (lv_at hl 0 rfl) ?_
    refine va_get (D := D) (ci := 6) (v := .int tm) (C := RX6) (T := TX6) (N := 22) hx hb hts hinX6 hown hE.1 hP 0 rfl rfl 6 (by decide) k_10 (fun _ h9 => h9) rfl dX6_image_61 ?_
    refine va_put (D := D) (ci := 6) (v := .int tm) (ty := .int) (C := RX6) (T := TX6) (N := 22) hx hb hts hinX6 tyX6 tyX6_ok nmX6 hown hE.1 hP hD hS 0 rfl rfl 15 (by decide) k_11 (fun _ h9 => h9) rfl (by decide +kernel) rfl rfl (Nat.le_of_ble_eq_true rfl) dX6_image_64 (fun H locs hP hD hS => ?_)
    have hP : va_P D vwCl [(mo, .inr (6, [.ref apg, .int (nI P), .int ea, .int (nI K), .int (nI Hn), .int ym, .int tm, .ref arw, .ref ans, .ref aro, .ref abo, .int (nI Sm), .ref asi, .int sd, .ref asv, .int tm, .int ym, .int (nI Sm), .ref akr, .ref akn, .ref aks, .long ha])), (arw, .inl (cI, 15, .inl rw)), (akr, .inl (cI, 15, .inl rw)), (ans, .inl (cI, 20, .inl ns)), (akn, .inl (cI, 20, .inl ns)), (asi, .inl (cI, 24, .inl si)), (aks, .inl (cI, 24, .inl si))] H := hP
    have hD : va_D A [(mo, .inr (6, [.ref apg, .int (nI P), .int ea, .int (nI K), .int (nI Hn), .int ym, .int tm, .ref arw, .ref ans, .ref aro, .ref abo, .int (nI Sm), .ref asi, .int sd, .ref asv, .int tm, .int ym, .int (nI Sm), .ref akr, .ref akn, .ref aks, .long ha])), (arw, .inl (cI, 15, .inl rw)), (akr, .inl (cI, 15, .inl rw)), (ans, .inl (cI, 20, .inl ns)), (akn, .inl (cI, 20, .inl ns)), (asi, .inl (cI, 24, .inl si)), (aks, .inl (cI, 24, .inl si))] := hD
    refine lv_aload_n hx hb dX6_image_67 rfl (lv_at hl 0 rfl) ?_
    refine va_get (D := D) (ci := 6) (v := .int ym) (C := RX6) (T := TX6) (N := 22) hx hb hts hinX6 hown hE.1 hP 0 rfl rfl 5 (by decide) k_6 (fun _ h9 => h9) rfl dX6_image_68 ?_
    have e9 : (fImgM Hn kt ky ks kr kn kss ym tm Sm rw ns si) = (ym, tm, ym, Sm, rw, ns, si) := (if_neg c_4)
    have hP9 := hP.sub (ws' := [(mo, .inr (6, [.ref apg, .int (nI P), .int ea, .int (nI K), .int (nI Hn), .int ym, .int tm, .ref arw, .ref ans, .ref aro, .ref abo, .int (nI Sm), .ref asi, .int sd, .ref asv, .int ((fImgM Hn kt ky ks kr kn kss ym tm Sm rw ns si).2.1), .int ((fImgM Hn kt ky ks kr kn kss ym tm Sm rw ns si).2.2.1), .int (nI ((fImgM Hn kt ky ks kr kn kss ym tm Sm rw ns si).2.2.2.1)), .ref akr, .ref akn, .ref aks, .long ha])), (arw, .inl (cI, 15, .inl rw)), (ans, .inl (cI, 20, .inl ns)), (asi, .inl (cI, 24, .inl si)), (akr, .inl (cI, 15, .inl ((fImgM Hn kt ky ks kr kn kss ym tm Sm rw ns si).2.2.2.2.1))), (akn, .inl (cI, 20, .inl ((fImgM Hn kt ky ks kr kn kss ym tm Sm rw ns si).2.2.2.2.2.1))), (aks, .inl (cI, 24, .inl ((fImgM Hn kt ky ks kr kn kss ym tm Sm rw ns si).2.2.2.2.2.2)))]) [0, 1, 3, 5, 2, 4, 6] (by rw [e9]; try rfl)
    have hD9 := hD.sub (ws' := [(mo, .inr (6, [.ref apg, .int (nI P), .int ea, .int (nI K), .int (nI Hn), .int ym, .int tm, .ref arw, .ref ans, .ref aro, .ref abo, .int (nI Sm), .ref asi, .int sd, .ref asv, .int ((fImgM Hn kt ky ks kr kn kss ym tm Sm rw ns si).2.1), .int ((fImgM Hn kt ky ks kr kn kss ym tm Sm rw ns si).2.2.1), .int (nI ((fImgM Hn kt ky ks kr kn kss ym tm Sm rw ns si).2.2.2.1)), .ref akr, .ref akn, .ref aks, .long ha])), (arw, .inl (cI, 15, .inl rw)), (ans, .inl (cI, 20, .inl ns)), (asi, .inl (cI, 24, .inl si)), (akr, .inl (cI, 15, .inl ((fImgM Hn kt ky ks kr kn kss ym tm Sm rw ns si).2.2.2.2.1))), (akn, .inl (cI, 20, .inl ((fImgM Hn kt ky ks kr kn kss ym tm Sm rw ns si).2.2.2.2.2.1))), (aks, .inl (cI, 24, .inl ((fImgM Hn kt ky ks kr kn kss ym tm Sm rw ns si).2.2.2.2.2.2)))]) [0, 1, 3, 5, 2, 4, 6] (by decide) (by rw [e9]; try rfl)
    exact W.iret (v := ym) hx hb hr (fun t ht hW => ⟨⟨ym, (), rfl, (by rw [e9]; try rfl), by rw [ht]; exact hP9, hD9⟩, hS.F ht⟩) hS.2.2 dX6_image_71
  · have c_4 := zb_1 c_4
    refine lv_bipush (v := (-103)) hx hb dX6_image_7 (by decide) ?_
    have e9 : (fImgM Hn kt ky ks kr kn kss ym tm Sm rw ns si) = ((-103), kt, ky, ks, kr, kn, kss) := (if_pos c_4)
    have hP9 := hP.sub (ws' := [(mo, .inr (6, [.ref apg, .int (nI P), .int ea, .int (nI K), .int (nI Hn), .int ym, .int tm, .ref arw, .ref ans, .ref aro, .ref abo, .int (nI Sm), .ref asi, .int sd, .ref asv, .int ((fImgM Hn kt ky ks kr kn kss ym tm Sm rw ns si).2.1), .int ((fImgM Hn kt ky ks kr kn kss ym tm Sm rw ns si).2.2.1), .int (nI ((fImgM Hn kt ky ks kr kn kss ym tm Sm rw ns si).2.2.2.1)), .ref akr, .ref akn, .ref aks, .long ha])), (arw, .inl (cI, 15, .inl rw)), (ans, .inl (cI, 20, .inl ns)), (asi, .inl (cI, 24, .inl si)), (akr, .inl (cI, 15, .inl ((fImgM Hn kt ky ks kr kn kss ym tm Sm rw ns si).2.2.2.2.1))), (akn, .inl (cI, 20, .inl ((fImgM Hn kt ky ks kr kn kss ym tm Sm rw ns si).2.2.2.2.2.1))), (aks, .inl (cI, 24, .inl ((fImgM Hn kt ky ks kr kn kss ym tm Sm rw ns si).2.2.2.2.2.2)))]) [0, 1, 2, 3, 4, 5, 6] (by rw [e9]; try rfl)
    have hD9 := hD.sub (ws' := [(mo, .inr (6, [.ref apg, .int (nI P), .int ea, .int (nI K), .int (nI Hn), .int ym, .int tm, .ref arw, .ref ans, .ref aro, .ref abo, .int (nI Sm), .ref asi, .int sd, .ref asv, .int ((fImgM Hn kt ky ks kr kn kss ym tm Sm rw ns si).2.1), .int ((fImgM Hn kt ky ks kr kn kss ym tm Sm rw ns si).2.2.1), .int (nI ((fImgM Hn kt ky ks kr kn kss ym tm Sm rw ns si).2.2.2.1)), .ref akr, .ref akn, .ref aks, .long ha])), (arw, .inl (cI, 15, .inl rw)), (ans, .inl (cI, 20, .inl ns)), (asi, .inl (cI, 24, .inl si)), (akr, .inl (cI, 15, .inl ((fImgM Hn kt ky ks kr kn kss ym tm Sm rw ns si).2.2.2.2.1))), (akn, .inl (cI, 20, .inl ((fImgM Hn kt ky ks kr kn kss ym tm Sm rw ns si).2.2.2.2.2.1))), (aks, .inl (cI, 24, .inl ((fImgM Hn kt ky ks kr kn kss ym tm Sm rw ns si).2.2.2.2.2.2)))]) [0, 1, 2, 3, 4, 5, 6] (by decide) (by rw [e9]; try rfl)
    exact W.iret (v := (-103)) hx hb hr (fun t ht hW => ⟨⟨(-103), (), rfl, (by rw [e9]; try rfl), by rw [ht]; exact hP9, hD9⟩, hS.F ht⟩) hS.2.2 dX6_image_9

set_option maxHeartbeats 4000000 in
set_option maxRecDepth 100000 in
theorem c_X6_restore (l : Launch) (D : va_G) (cI cZ cA : ClassId) (sz : Nat) (mo : Nat) (apg : Nat) (P : Nat) (ea : Int32) (K : Nat) (Hn : Nat) (ym : Int32) (tm : Int32) (arw : Nat) (ans : Nat) (aro : Nat) (abo : Nat) (Sm : Nat) (asi : Nat) (sd : Int32) (asv : Nat) (kt : Int32) (ky : Int32) (ks : Nat) (akr : Nat) (akn : Nat) (aks : Nat) (ha : Int64) (rw : Nat → Int32) (ns : Nat → Int32) (si : Nat → Int32) (kr : Nat → Int32) (kn : Nat → Int32) (kss : Nat → Int32)  : Met l yX6_restore wsX6_restore (zr 2) (va_Pc [.ref mo] (zPw D cI cZ cA [(mo, .inr (6, [.ref apg, .int (nI P), .int ea, .int (nI K), .int (nI Hn), .int ym, .int tm, .ref arw, .ref ans, .ref aro, .ref abo, .int (nI Sm), .ref asi, .int sd, .ref asv, .int kt, .int ky, .int (nI ks), .ref akr, .ref akn, .ref aks, .long ha])), (arw, .inl (cI, 15, .inl rw)), (ans, .inl (cI, 20, .inl ns)), (asi, .inl (cI, 24, .inl si)), (akr, .inl (cI, 15, .inl kr)), (akn, .inl (cI, 20, .inl kn)), (aks, .inl (cI, 24, .inl kss))] sz)) (va_Qi (fun (r : Int32) (_ : Unit) => r = (fResM kt ky ks kr kn kss ym tm Sm rw ns si).1) (zB D [(mo, .inr (6, [.ref apg, .int (nI P), .int ea, .int (nI K), .int (nI Hn), .int ((fResM kt ky ks kr kn kss ym tm Sm rw ns si).2.1), .int tm, .ref arw, .ref ans, .ref aro, .ref abo, .int (nI ((fResM kt ky ks kr kn kss ym tm Sm rw ns si).2.2.1)), .ref asi, .int sd, .ref asv, .int kt, .int ky, .int (nI ks), .ref akr, .ref akn, .ref aks, .long ha])), (arw, .inl (cI, 15, .inl ((fResM kt ky ks kr kn kss ym tm Sm rw ns si).2.2.2.1))), (ans, .inl (cI, 20, .inl ((fResM kt ky ks kr kn kss ym tm Sm rw ns si).2.2.2.2.1))), (asi, .inl (cI, 24, .inl ((fResM kt ky ks kr kn kss ym tm Sm rw ns si).2.2.2.2.2))), (akr, .inl (cI, 15, .inl kr)), (akn, .inl (cI, 20, .inl kn)), (aks, .inl (cI, 24, .inl kss))] (va_A [(mo, .inr (6, [.ref apg, .int (nI P), .int ea, .int (nI K), .int (nI Hn), .int ym, .int tm, .ref arw, .ref ans, .ref aro, .ref abo, .int (nI Sm), .ref asi, .int sd, .ref asv, .int kt, .int ky, .int (nI ks), .ref akr, .ref akn, .ref aks, .long ha])), (arw, .inl (cI, 15, .inl rw)), (ans, .inl (cI, 20, .inl ns)), (asi, .inl (cI, 24, .inl si)), (akr, .inl (cI, 15, .inl kr)), (akn, .inl (cI, 20, .inl kn)), (aks, .inl (cI, 24, .inl kss))] sz)) (va_A [(mo, .inr (6, [.ref apg, .int (nI P), .int ea, .int (nI K), .int (nI Hn), .int ym, .int tm, .ref arw, .ref ans, .ref aro, .ref abo, .int (nI Sm), .ref asi, .int sd, .ref asv, .int kt, .int ky, .int (nI ks), .ref akr, .ref akn, .ref aks, .long ha])), (arw, .inl (cI, 15, .inl rw)), (ans, .inl (cI, 20, .inl ns)), (asi, .inl (cI, 24, .inl si)), (akr, .inl (cI, 15, .inl kr)), (akn, .inl (cI, 20, .inl kn)), (aks, .inl (cI, 24, .inl kss))] sz)) 0 0 (va_A [(mo, .inr (6, [.ref apg, .int (nI P), .int ea, .int (nI K), .int (nI Hn), .int ym, .int tm, .ref arw, .ref ans, .ref aro, .ref abo, .int (nI Sm), .ref asi, .int sd, .ref asv, .int kt, .int ky, .int (nI ks), .ref akr, .ref akn, .ref aks, .long ha])), (arw, .inl (cI, 15, .inl rw)), (ans, .inl (cI, 20, .inl ns)), (asi, .inl (cI, 24, .inl si)), (akr, .inl (cI, 15, .inl kr)), (akn, .inl (cI, 20, .inl kn)), (aks, .inl (cI, 24, .inl kss))] sz) := by
  refine Met.ofW (cc := cX6_restore) (maxL := 1) (ret := (some .int)) (by decide) rfl ?_
  intro p e s m args below meth c s₁ B hml hv
  obtain ⟨rfl, hsz, hP, hD0, hE⟩ := hv
  have hx := B.exec
  have hb := B.bytes
  have hr := B.returns
  have hts := atoms_spec (ws := wsX6_restore) B.pre
  have hown : s.vm.findClass RX6 = some m.cls := findClass_of_methodNamed B.named
  have hlocks := B.notSynchronized
  subst hsz
  have hD := hD0.self (sz := s.heap.size)
  generalize hAe : va_A [(mo, .inr (6, [.ref apg, .int (nI P), .int ea, .int (nI K), .int (nI Hn), .int ym, .int tm, .ref arw, .ref ans, .ref aro, .ref abo, .int (nI Sm), .ref asi, .int sd, .ref asv, .int kt, .int ky, .int (nI ks), .ref akr, .ref akn, .ref aks, .long ha])), (arw, .inl (cI, 15, .inl rw)), (ans, .inl (cI, 20, .inl ns)), (asi, .inl (cI, 24, .inl si)), (akr, .inl (cI, 15, .inl kr)), (akn, .inl (cI, 20, .inl kn)), (aks, .inl (cI, 24, .inl kss))] s.heap.size = A at hD ⊢
  have hA : ∀ q : Nat, s.heap.size ≤ q → A q := fun q h => by rw [← hAe]; exact Or.inr h
  have hS : va_S A s.heap s.heap [] := va_S.rf
  have hP : va_P D vwCl [(mo, .inr (6, [.ref apg, .int (nI P), .int ea, .int (nI K), .int (nI Hn), .int ym, .int tm, .ref arw, .ref ans, .ref aro, .ref abo, .int (nI Sm), .ref asi, .int sd, .ref asv, .int kt, .int ky, .int (nI ks), .ref akr, .ref akn, .ref aks, .long ha])), (arw, .inl (cI, 15, .inl rw)), (ans, .inl (cI, 20, .inl ns)), (asi, .inl (cI, 24, .inl si)), (akr, .inl (cI, 15, .inl kr)), (akn, .inl (cI, 20, .inl kn)), (aks, .inl (cI, 24, .inl kss))] s.heap := hP
  have hD : va_D A [(mo, .inr (6, [.ref apg, .int (nI P), .int ea, .int (nI K), .int (nI Hn), .int ym, .int tm, .ref arw, .ref ans, .ref aro, .ref abo, .int (nI Sm), .ref asi, .int sd, .ref asv, .int kt, .int ky, .int (nI ks), .ref akr, .ref akn, .ref aks, .long ha])), (arw, .inl (cI, 15, .inl rw)), (ans, .inl (cI, 20, .inl ns)), (asi, .inl (cI, 24, .inl si)), (akr, .inl (cI, 15, .inl kr)), (akn, .inl (cI, 20, .inl kn)), (aks, .inl (cI, 24, .inl kss))] := hD
  have hl := lv_entry ([.ref mo]) (n := 1) (Nat.le_of_ble_eq_true rfl)
  rw [lg_entry_eq]
  generalize (lg_sl ([.ref mo]) ++ List.replicate (1 - (lg_sl ([.ref mo])).length) Slot.unset).toArray = ls at hl ⊢
  have hl : lv_has ls 1 [(0, .ref mo)] := hl
  have hinX6 : ∀ w ∈ wsX60, w ∈ wsX6_restore := fun w h => List.mem_cons_of_mem _ (List.mem_append_right _ h)
  have k_0 := hts (.fieldLink RX6 40 "VowDovesModel" "keptTower" "I") (by decide +kernel)
  have k_1 := hts (.fieldLink RX6 88 "VowDovesModel" "towersRead" "I") (by decide +kernel)
  have k_2 := hts (.fieldLink RX6 31 "VowDovesModel" "keptRows" "[I") (by decide +kernel)
  have k_3 := hts (.fieldLink RX6 13 "VowDovesModel" "rows" "[I") (by decide +kernel)
  have k_4 := hts (.fieldLink RX6 34 "VowDovesModel" "keptNests" "[I") (by decide +kernel)
  have k_5 := hts (.fieldLink RX6 16 "VowDovesModel" "nests" "[I") (by decide +kernel)
  have k_6 := hts (.fieldLink RX6 37 "VowDovesModel" "keptSights" "[I") (by decide +kernel)
  have k_7 := hts (.fieldLink RX6 25 "VowDovesModel" "sights" "[I") (by decide +kernel)
  have k_8 := hts (.fieldLink RX6 188 "VowDovesModel" "keptYears" "I") (by decide +kernel)
  have k_9 := hts (.fieldLink RX6 82 "VowDovesModel" "years" "I") (by decide +kernel)
  have k_10 := hts (.fieldLink RX6 191 "VowDovesModel" "keptSeen" "I") (by decide +kernel)
  have k_11 := hts (.fieldLink RX6 85 "VowDovesModel" "seenMany" "I") (by decide +kernel)
  refine lv_aload_n hx hb dX6_restore_0 rfl (lv_at hl 0 rfl) ?_
  refine va_get (D := D) (ci := 6) (v := .int kt) (C := RX6) (T := TX6) (N := 22) hx hb hts hinX6 hown hE.1 hP 0 rfl rfl 15 (by decide) k_0 (fun _ h9 => h9) rfl dX6_restore_1 ?_
  refine lv_aload_n hx hb dX6_restore_4 rfl (lv_at hl 0 rfl) ?_
  refine va_get (D := D) (ci := 6) (v := .int tm) (C := RX6) (T := TX6) (N := 22) hx hb hts hinX6 hown hE.1 hP 0 rfl rfl 6 (by decide) k_1 (fun _ h9 => h9) rfl dX6_restore_5 ?_
  refine lv_icmp_eq (tgt := 14) hx hb dX6_restore_8 (by decide) (fun c_8 => ?_) (fun c_8 => ?_)
  · refine lv_aload_n hx hb dX6_restore_14 rfl (lv_at hl 0 rfl) ?_
    refine va_get (D := D) (ci := 6) (v := .ref akr) (C := RX6) (T := TX6) (N := 22) hx hb hts hinX6 hown hE.1 hP 0 rfl rfl 18 (by decide) k_2 (fun _ h9 => h9) rfl dX6_restore_15 ?_
    refine lv_aload_n hx hb dX6_restore_18 rfl (lv_at hl 0 rfl) ?_
    refine va_get (D := D) (ci := 6) (v := .ref arw) (C := RX6) (T := TX6) (N := 22) hx hb hts hinX6 hown hE.1 hP 0 rfl rfl 7 (by decide) k_3 (fun _ h9 => h9) rfl dX6_restore_19 ?_
    refine z_rwSv (As := [.ref akr, .ref arw]) (rest := []) (wr := [(mo, .inr (6, [.ref apg, .int (nI P), .int ea, .int (nI K), .int (nI Hn), .int ym, .int tm, .ref arw, .ref ans, .ref aro, .ref abo, .int (nI Sm), .ref asi, .int sd, .ref asv, .int kt, .int ky, .int (nI ks), .ref akr, .ref akn, .ref aks, .long ha])), (ans, .inl (cI, 20, .inl ns)), (asi, .inl (cI, 24, .inl si)), (akn, .inl (cI, 20, .inl kn)), (aks, .inl (cI, 24, .inl kss))]) (w1 := [(akr, .inl (cI, 15, .inl kr)), (arw, .inl (cI, 15, .inl kr))]) ⟨hx, hb, hml, hown, hts⟩ (c_X6_copy l D cI cZ cA _ akr arw 15 kr rw (by first | assumption | omega)) (va_cwS 2 hts gX6_restore_X6_copy rfl rfl rfl (by decide +kernel) ⟨Nat.le_of_ble_eq_true rfl, Nat.le_of_ble_eq_true rfl⟩) hE hP hD hS hA [4, 1] [0, 2, 3, 5, 6] rfl rfl rfl (by decide) (by decide) (by decide) rfl hl.1 rfl (Nat.le_of_ble_eq_true rfl) dX6_restore_22 ⟨Nat.zero_le _, Nat.zero_le _⟩ (fun H locs hP hD hS => ?_)
    have hP : va_P D vwCl [(mo, .inr (6, [.ref apg, .int (nI P), .int ea, .int (nI K), .int (nI Hn), .int ym, .int tm, .ref arw, .ref ans, .ref aro, .ref abo, .int (nI Sm), .ref asi, .int sd, .ref asv, .int kt, .int ky, .int (nI ks), .ref akr, .ref akn, .ref aks, .long ha])), (ans, .inl (cI, 20, .inl ns)), (asi, .inl (cI, 24, .inl si)), (akn, .inl (cI, 20, .inl kn)), (aks, .inl (cI, 24, .inl kss)), (akr, .inl (cI, 15, .inl kr)), (arw, .inl (cI, 15, .inl kr))] H := hP
    have hD : va_D A [(mo, .inr (6, [.ref apg, .int (nI P), .int ea, .int (nI K), .int (nI Hn), .int ym, .int tm, .ref arw, .ref ans, .ref aro, .ref abo, .int (nI Sm), .ref asi, .int sd, .ref asv, .int kt, .int ky, .int (nI ks), .ref akr, .ref akn, .ref aks, .long ha])), (ans, .inl (cI, 20, .inl ns)), (asi, .inl (cI, 24, .inl si)), (akn, .inl (cI, 20, .inl kn)), (aks, .inl (cI, 24, .inl kss)), (akr, .inl (cI, 15, .inl kr)), (arw, .inl (cI, 15, .inl kr))] := hD
    refine lv_aload_n hx hb dX6_restore_25 rfl (lv_at hl 0 rfl) ?_
    refine va_get (D := D) (ci := 6) (v := .ref akn) (C := RX6) (T := TX6) (N := 22) hx hb hts hinX6 hown hE.1 hP 0 rfl rfl 19 (by decide) k_4 (fun _ h9 => h9) rfl dX6_restore_26 ?_
    refine lv_aload_n hx hb dX6_restore_29 rfl (lv_at hl 0 rfl) ?_
    refine va_get (D := D) (ci := 6) (v := .ref ans) (C := RX6) (T := TX6) (N := 22) hx hb hts hinX6 hown hE.1 hP 0 rfl rfl 8 (by decide) k_5 (fun _ h9 => h9) rfl dX6_restore_30 ?_
    refine z_rwSv (As := [.ref akn, .ref ans]) (rest := []) (wr := [(mo, .inr (6, [.ref apg, .int (nI P), .int ea, .int (nI K), .int (nI Hn), .int ym, .int tm, .ref arw, .ref ans, .ref aro, .ref abo, .int (nI Sm), .ref asi, .int sd, .ref asv, .int kt, .int ky, .int (nI ks), .ref akr, .ref akn, .ref aks, .long ha])), (asi, .inl (cI, 24, .inl si)), (aks, .inl (cI, 24, .inl kss)), (akr, .inl (cI, 15, .inl kr)), (arw, .inl (cI, 15, .inl kr))]) (w1 := [(akn, .inl (cI, 20, .inl kn)), (ans, .inl (cI, 20, .inl kn))]) ⟨hx, hb, hml, hown, hts⟩ (c_X6_copy l D cI cZ cA _ akn ans 20 kn ns (by first | assumption | omega)) (va_cwS 2 hts gX6_restore_X6_copy rfl rfl rfl (by decide +kernel) ⟨Nat.le_of_ble_eq_true rfl, Nat.le_of_ble_eq_true rfl⟩) hE hP hD hS hA [3, 1] [0, 2, 4, 5, 6] rfl rfl rfl (by decide) (by decide) (by decide) rfl hl.1 rfl (Nat.le_of_ble_eq_true rfl) dX6_restore_33 ⟨Nat.zero_le _, Nat.zero_le _⟩ (fun H locs hP hD hS => ?_)
    have hP : va_P D vwCl [(mo, .inr (6, [.ref apg, .int (nI P), .int ea, .int (nI K), .int (nI Hn), .int ym, .int tm, .ref arw, .ref ans, .ref aro, .ref abo, .int (nI Sm), .ref asi, .int sd, .ref asv, .int kt, .int ky, .int (nI ks), .ref akr, .ref akn, .ref aks, .long ha])), (asi, .inl (cI, 24, .inl si)), (aks, .inl (cI, 24, .inl kss)), (akr, .inl (cI, 15, .inl kr)), (arw, .inl (cI, 15, .inl kr)), (akn, .inl (cI, 20, .inl kn)), (ans, .inl (cI, 20, .inl kn))] H := hP
    have hD : va_D A [(mo, .inr (6, [.ref apg, .int (nI P), .int ea, .int (nI K), .int (nI Hn), .int ym, .int tm, .ref arw, .ref ans, .ref aro, .ref abo, .int (nI Sm), .ref asi, .int sd, .ref asv, .int kt, .int ky, .int (nI ks), .ref akr, .ref akn, .ref aks, .long ha])), (asi, .inl (cI, 24, .inl si)), (aks, .inl (cI, 24, .inl kss)), (akr, .inl (cI, 15, .inl kr)), (arw, .inl (cI, 15, .inl kr)), (akn, .inl (cI, 20, .inl kn)), (ans, .inl (cI, 20, .inl kn))] := hD
    refine lv_aload_n hx hb dX6_restore_36 rfl (lv_at hl 0 rfl) ?_
    refine va_get (D := D) (ci := 6) (v := .ref aks) (C := RX6) (T := TX6) (N := 22) hx hb hts hinX6 hown hE.1 hP 0 rfl rfl 20 (by decide) k_6 (fun _ h9 => h9) rfl dX6_restore_37 ?_
    refine lv_aload_n hx hb dX6_restore_40 rfl (lv_at hl 0 rfl) ?_
    refine va_get (D := D) (ci := 6) (v := .ref asi) (C := RX6) (T := TX6) (N := 22) hx hb hts hinX6 hown hE.1 hP 0 rfl rfl 12 (by decide) k_7 (fun _ h9 => h9) rfl dX6_restore_41 ?_
    refine z_rwSv (As := [.ref aks, .ref asi]) (rest := []) (wr := [(mo, .inr (6, [.ref apg, .int (nI P), .int ea, .int (nI K), .int (nI Hn), .int ym, .int tm, .ref arw, .ref ans, .ref aro, .ref abo, .int (nI Sm), .ref asi, .int sd, .ref asv, .int kt, .int ky, .int (nI ks), .ref akr, .ref akn, .ref aks, .long ha])), (akr, .inl (cI, 15, .inl kr)), (arw, .inl (cI, 15, .inl kr)), (akn, .inl (cI, 20, .inl kn)), (ans, .inl (cI, 20, .inl kn))]) (w1 := [(aks, .inl (cI, 24, .inl kss)), (asi, .inl (cI, 24, .inl kss))]) ⟨hx, hb, hml, hown, hts⟩ (c_X6_copy l D cI cZ cA _ aks asi 24 kss si (by first | assumption | omega)) (va_cwS 2 hts gX6_restore_X6_copy rfl rfl rfl (by decide +kernel) ⟨Nat.le_of_ble_eq_true rfl, Nat.le_of_ble_eq_true rfl⟩) hE hP hD hS hA [2, 1] [0, 3, 4, 5, 6] rfl rfl rfl (by decide) (by decide) (by decide) rfl hl.1 rfl (Nat.le_of_ble_eq_true rfl) dX6_restore_44 ⟨Nat.zero_le _, Nat.zero_le _⟩ (fun H locs hP hD hS => ?_)
    have hP : va_P D vwCl [(mo, .inr (6, [.ref apg, .int (nI P), .int ea, .int (nI K), .int (nI Hn), .int ym, .int tm, .ref arw, .ref ans, .ref aro, .ref abo, .int (nI Sm), .ref asi, .int sd, .ref asv, .int kt, .int ky, .int (nI ks), .ref akr, .ref akn, .ref aks, .long ha])), (akr, .inl (cI, 15, .inl kr)), (arw, .inl (cI, 15, .inl kr)), (akn, .inl (cI, 20, .inl kn)), (ans, .inl (cI, 20, .inl kn)), (aks, .inl (cI, 24, .inl kss)), (asi, .inl (cI, 24, .inl kss))] H := hP
    have hD : va_D A [(mo, .inr (6, [.ref apg, .int (nI P), .int ea, .int (nI K), .int (nI Hn), .int ym, .int tm, .ref arw, .ref ans, .ref aro, .ref abo, .int (nI Sm), .ref asi, .int sd, .ref asv, .int kt, .int ky, .int (nI ks), .ref akr, .ref akn, .ref aks, .long ha])), (akr, .inl (cI, 15, .inl kr)), (arw, .inl (cI, 15, .inl kr)), (akn, .inl (cI, 20, .inl kn)), (ans, .inl (cI, 20, .inl kn)), (aks, .inl (cI, 24, .inl kss)), (asi, .inl (cI, 24, .inl kss))] := hD
    refine lv_aload_n hx hb dX6_restore_47 rfl (lv_at hl 0 rfl) ?_
    refine lv_aload_n hx hb dX6_restore_48 rfl (lv_at hl 0 rfl) ?_
    refine va_get (D := D) (ci := 6) (v := .int ky) (C := RX6) (T := TX6) (N := 22) hx hb hts hinX6 hown hE.1 hP 0 rfl rfl 16 (by decide) k_8 (fun _ h9 => h9) rfl dX6_restore_49 ?_
    refine va_put (D := D) (ci := 6) (v := .int ky) (ty := .int) (C := RX6) (T := TX6) (N := 22) hx hb hts hinX6 tyX6 tyX6_ok nmX6 hown hE.1 hP hD hS 0 rfl rfl 5 (by decide) k_9 (fun _ h9 => h9) rfl (by decide +kernel) rfl rfl (Nat.le_of_ble_eq_true rfl) dX6_restore_52 (fun H locs hP hD hS => ?_)
    have hP : va_P D vwCl [(mo, .inr (6, [.ref apg, .int (nI P), .int ea, .int (nI K), .int (nI Hn), .int ky, .int tm, .ref arw, .ref ans, .ref aro, .ref abo, .int (nI Sm), .ref asi, .int sd, .ref asv, .int kt, .int ky, .int (nI ks), .ref akr, .ref akn, .ref aks, .long ha])), (akr, .inl (cI, 15, .inl kr)), (arw, .inl (cI, 15, .inl kr)), (akn, .inl (cI, 20, .inl kn)), (ans, .inl (cI, 20, .inl kn)), (aks, .inl (cI, 24, .inl kss)), (asi, .inl (cI, 24, .inl kss))] H := hP
    have hD : va_D A [(mo, .inr (6, [.ref apg, .int (nI P), .int ea, .int (nI K), .int (nI Hn), .int ky, .int tm, .ref arw, .ref ans, .ref aro, .ref abo, .int (nI Sm), .ref asi, .int sd, .ref asv, .int kt, .int ky, .int (nI ks), .ref akr, .ref akn, .ref aks, .long ha])), (akr, .inl (cI, 15, .inl kr)), (arw, .inl (cI, 15, .inl kr)), (akn, .inl (cI, 20, .inl kn)), (ans, .inl (cI, 20, .inl kn)), (aks, .inl (cI, 24, .inl kss)), (asi, .inl (cI, 24, .inl kss))] := hD
    refine lv_aload_n hx hb dX6_restore_55 rfl (lv_at hl 0 rfl) ?_
    refine lv_aload_n hx hb dX6_restore_56 rfl (lv_at hl 0 rfl) ?_
    refine va_get (D := D) (ci := 6) (v := .int (nI ks)) (C := RX6) (T := TX6) (N := 22) hx hb hts hinX6 hown hE.1 hP 0 rfl rfl 17 (by decide) k_10 (fun _ h9 => h9) rfl dX6_restore_57 ?_
    refine va_put (D := D) (ci := 6) (v := .int (nI ks)) (ty := .int) (C := RX6) (T := TX6) (N := 22) hx hb hts hinX6 tyX6 tyX6_ok nmX6 hown hE.1 hP hD hS 0 rfl rfl 11 (by decide) k_11 (fun _ h9 => h9) rfl (by decide +kernel) rfl rfl (Nat.le_of_ble_eq_true rfl) dX6_restore_60 (fun H locs hP hD hS => ?_)
    have hP : va_P D vwCl [(mo, .inr (6, [.ref apg, .int (nI P), .int ea, .int (nI K), .int (nI Hn), .int ky, .int tm, .ref arw, .ref ans, .ref aro, .ref abo, .int (nI ks), .ref asi, .int sd, .ref asv, .int kt, .int ky, .int (nI ks), .ref akr, .ref akn, .ref aks, .long ha])), (akr, .inl (cI, 15, .inl kr)), (arw, .inl (cI, 15, .inl kr)), (akn, .inl (cI, 20, .inl kn)), (ans, .inl (cI, 20, .inl kn)), (aks, .inl (cI, 24, .inl kss)), (asi, .inl (cI, 24, .inl kss))] H := hP
    have hD : va_D A [(mo, .inr (6, [.ref apg, .int (nI P), .int ea, .int (nI K), .int (nI Hn), .int ky, .int tm, .ref arw, .ref ans, .ref aro, .ref abo, .int (nI ks), .ref asi, .int sd, .ref asv, .int kt, .int ky, .int (nI ks), .ref akr, .ref akn, .ref aks, .long ha])), (akr, .inl (cI, 15, .inl kr)), (arw, .inl (cI, 15, .inl kr)), (akn, .inl (cI, 20, .inl kn)), (ans, .inl (cI, 20, .inl kn)), (aks, .inl (cI, 24, .inl kss)), (asi, .inl (cI, 24, .inl kss))] := hD
    refine lv_aload_n hx hb dX6_restore_63 rfl (lv_at hl 0 rfl) ?_
    refine va_get (D := D) (ci := 6) (v := .int ky) (C := RX6) (T := TX6) (N := 22) hx hb hts hinX6 hown hE.1 hP 0 rfl rfl 5 (by decide) k_9 (fun _ h9 => h9) rfl dX6_restore_64 ?_
    have e9 : (fResM kt ky ks kr kn kss ym tm Sm rw ns si) = (ky, ky, ks, kr, kn, kss) := (if_pos c_8)
    have hP9 := hP.sub (ws' := [(mo, .inr (6, [.ref apg, .int (nI P), .int ea, .int (nI K), .int (nI Hn), .int ((fResM kt ky ks kr kn kss ym tm Sm rw ns si).2.1), .int tm, .ref arw, .ref ans, .ref aro, .ref abo, .int (nI ((fResM kt ky ks kr kn kss ym tm Sm rw ns si).2.2.1)), .ref asi, .int sd, .ref asv, .int kt, .int ky, .int (nI ks), .ref akr, .ref akn, .ref aks, .long ha])), (arw, .inl (cI, 15, .inl ((fResM kt ky ks kr kn kss ym tm Sm rw ns si).2.2.2.1))), (ans, .inl (cI, 20, .inl ((fResM kt ky ks kr kn kss ym tm Sm rw ns si).2.2.2.2.1))), (asi, .inl (cI, 24, .inl ((fResM kt ky ks kr kn kss ym tm Sm rw ns si).2.2.2.2.2))), (akr, .inl (cI, 15, .inl kr)), (akn, .inl (cI, 20, .inl kn)), (aks, .inl (cI, 24, .inl kss))]) [0, 2, 4, 6, 1, 3, 5] (by rw [e9]; try rfl)
    have hD9 := hD.sub (ws' := [(mo, .inr (6, [.ref apg, .int (nI P), .int ea, .int (nI K), .int (nI Hn), .int ((fResM kt ky ks kr kn kss ym tm Sm rw ns si).2.1), .int tm, .ref arw, .ref ans, .ref aro, .ref abo, .int (nI ((fResM kt ky ks kr kn kss ym tm Sm rw ns si).2.2.1)), .ref asi, .int sd, .ref asv, .int kt, .int ky, .int (nI ks), .ref akr, .ref akn, .ref aks, .long ha])), (arw, .inl (cI, 15, .inl ((fResM kt ky ks kr kn kss ym tm Sm rw ns si).2.2.2.1))), (ans, .inl (cI, 20, .inl ((fResM kt ky ks kr kn kss ym tm Sm rw ns si).2.2.2.2.1))), (asi, .inl (cI, 24, .inl ((fResM kt ky ks kr kn kss ym tm Sm rw ns si).2.2.2.2.2))), (akr, .inl (cI, 15, .inl kr)), (akn, .inl (cI, 20, .inl kn)), (aks, .inl (cI, 24, .inl kss))]) [0, 2, 4, 6, 1, 3, 5] (by decide) (by rw [e9]; try rfl)
    exact W.iret (v := ky) hx hb hr (fun t ht hW => ⟨⟨ky, (), rfl, (by rw [e9]; try rfl), by rw [ht]; exact hP9, hD9⟩, hS.F ht⟩) hS.2.2 dX6_restore_67
  · refine lv_bipush (v := (-103)) hx hb dX6_restore_11 (by decide) ?_
    have e9 : (fResM kt ky ks kr kn kss ym tm Sm rw ns si) = ((-103), ym, Sm, rw, ns, si) := (if_neg c_8)
    have hP9 := hP.sub (ws' := [(mo, .inr (6, [.ref apg, .int (nI P), .int ea, .int (nI K), .int (nI Hn), .int ((fResM kt ky ks kr kn kss ym tm Sm rw ns si).2.1), .int tm, .ref arw, .ref ans, .ref aro, .ref abo, .int (nI ((fResM kt ky ks kr kn kss ym tm Sm rw ns si).2.2.1)), .ref asi, .int sd, .ref asv, .int kt, .int ky, .int (nI ks), .ref akr, .ref akn, .ref aks, .long ha])), (arw, .inl (cI, 15, .inl ((fResM kt ky ks kr kn kss ym tm Sm rw ns si).2.2.2.1))), (ans, .inl (cI, 20, .inl ((fResM kt ky ks kr kn kss ym tm Sm rw ns si).2.2.2.2.1))), (asi, .inl (cI, 24, .inl ((fResM kt ky ks kr kn kss ym tm Sm rw ns si).2.2.2.2.2))), (akr, .inl (cI, 15, .inl kr)), (akn, .inl (cI, 20, .inl kn)), (aks, .inl (cI, 24, .inl kss))]) [0, 1, 2, 3, 4, 5, 6] (by rw [e9]; try rfl)
    have hD9 := hD.sub (ws' := [(mo, .inr (6, [.ref apg, .int (nI P), .int ea, .int (nI K), .int (nI Hn), .int ((fResM kt ky ks kr kn kss ym tm Sm rw ns si).2.1), .int tm, .ref arw, .ref ans, .ref aro, .ref abo, .int (nI ((fResM kt ky ks kr kn kss ym tm Sm rw ns si).2.2.1)), .ref asi, .int sd, .ref asv, .int kt, .int ky, .int (nI ks), .ref akr, .ref akn, .ref aks, .long ha])), (arw, .inl (cI, 15, .inl ((fResM kt ky ks kr kn kss ym tm Sm rw ns si).2.2.2.1))), (ans, .inl (cI, 20, .inl ((fResM kt ky ks kr kn kss ym tm Sm rw ns si).2.2.2.2.1))), (asi, .inl (cI, 24, .inl ((fResM kt ky ks kr kn kss ym tm Sm rw ns si).2.2.2.2.2))), (akr, .inl (cI, 15, .inl kr)), (akn, .inl (cI, 20, .inl kn)), (aks, .inl (cI, 24, .inl kss))]) [0, 1, 2, 3, 4, 5, 6] (by decide) (by rw [e9]; try rfl)
    exact W.iret (v := (-103)) hx hb hr (fun t ht hW => ⟨⟨(-103), (), rfl, (by rw [e9]; try rfl), by rw [ht]; exact hP9, hD9⟩, hS.F ht⟩) hS.2.2 dX6_restore_13

set_option maxHeartbeats 4000000 in
set_option maxRecDepth 100000 in
theorem c_X6_countOf (l : Launch) (D : va_G) (cI cZ cA : ClassId) (mo : Nat) (apg : Nat) (P : Nat) (ea : Int32) (K : Nat) (Hn : Nat) (ym : Int32) (tm : Int32) (arw : Nat) (ans : Nat) (aro : Nat) (abo : Nat) (Sm : Nat) (asi : Nat) (sd : Int32) (asv : Nat) (kt : Int32) (ky : Int32) (ks : Nat) (akr : Nat) (akn : Nat) (aks : Nat) (ha : Int64) (rw : Nat → Int32) (ns : Nat → Int32) (what : Int32) (hK : K ≤ 5) (hH : Hn ≤ 5) : Met l yX6_countOf wsX6_countOf (zr 2) (va_Pc [.ref mo, .int what] (zPr D cI cZ cA [(mo, .inr (6, [.ref apg, .int (nI P), .int ea, .int (nI K), .int (nI Hn), .int ym, .int tm, .ref arw, .ref ans, .ref aro, .ref abo, .int (nI Sm), .ref asi, .int sd, .ref asv, .int kt, .int ky, .int (nI ks), .ref akr, .ref akn, .ref aks, .long ha])), (arw, .inl (cI, 15, .inl rw)), (ans, .inl (cI, 20, .inl ns))])) (vp_Si (fun r => r = cntM rw ns P K Hn Sm ym tm what)) 0 0 (fun _ => False) := by
  refine Met.ofW (cc := cX6_countOf) (maxL := 2) (ret := (some .int)) (by decide) rfl ?_
  intro p e s m args below meth c s₁ B hml hv
  obtain ⟨rfl, hP, hE⟩ := hv
  have hx := B.exec
  have hb := B.bytes
  have hr := B.returns
  have hts := atoms_spec (ws := wsX6_countOf) B.pre
  have hown : s.vm.findClass RX6 = some m.cls := findClass_of_methodNamed B.named
  have hlocks := B.notSynchronized
  have hP : va_P D vwCl [(mo, .inr (6, [.ref apg, .int (nI P), .int ea, .int (nI K), .int (nI Hn), .int ym, .int tm, .ref arw, .ref ans, .ref aro, .ref abo, .int (nI Sm), .ref asi, .int sd, .ref asv, .int kt, .int ky, .int (nI ks), .ref akr, .ref akn, .ref aks, .long ha])), (arw, .inl (cI, 15, .inl rw)), (ans, .inl (cI, 20, .inl ns))] s.heap := hP
  have hl := lv_entry ([.ref mo, .int what]) (n := 2) (Nat.le_of_ble_eq_true rfl)
  rw [lg_entry_eq]
  generalize (lg_sl ([.ref mo, .int what]) ++ List.replicate (2 - (lg_sl ([.ref mo, .int what])).length) Slot.unset).toArray = ls at hl ⊢
  have hl : lv_has ls 2 [(0, .ref mo), (1, .int what)] := hl
  have hinX6 : ∀ w ∈ wsX60, w ∈ wsX6_countOf := fun w h => List.mem_cons_of_mem _ (List.mem_append_right _ h)
  have k_0 := hts (.fieldLink RX6 72 "VowDovesModel" "keepers" "I") (by decide +kernel)
  have k_1 := hts (.fieldLink RX6 75 "VowDovesModel" "holes" "I") (by decide +kernel)
  have k_2 := hts (.fieldLink RX6 82 "VowDovesModel" "years" "I") (by decide +kernel)
  have k_3 := hts (.fieldLink RX6 85 "VowDovesModel" "seenMany" "I") (by decide +kernel)
  have k_4 := hts (.fieldLink RX6 50 "VowDovesModel" "pageMany" "I") (by decide +kernel)
  have k_5 := hts (.fieldLink RX6 88 "VowDovesModel" "towersRead" "I") (by decide +kernel)
  refine lv_iload_n hx hb dX6_countOf_0 rfl (lv_at hl 1 rfl) ?_
  by_cases c_1_0 : what = 0
  · refine lv_tableIn (tgt := 56) hx hb dX6_countOf_1 (by rw [c_1_0]; decide) (by rw [c_1_0]; decide) (by rw [c_1_0]; rfl) (by decide) ?_
    refine lv_aload_n hx hb dX6_countOf_56 rfl (lv_at hl 0 rfl) ?_
    refine va_get (D := D) (ci := 6) (v := .int (nI K)) (C := RX6) (T := TX6) (N := 22) hx hb hts hinX6 hown hE.1 hP 0 rfl rfl 3 (by decide) k_0 (fun _ h9 => h9) rfl dX6_countOf_57 ?_
    exact W.iret (v := nI K) hx hb hr (fun t ht hW => ⟨(nI K), rfl, (by rw [cntM]; simp [c_1_0]), ht⟩) (fun q h => by cases h) dX6_countOf_60
  by_cases c_1_1 : what = 1
  · refine lv_tableIn (tgt := 61) hx hb dX6_countOf_1 (by rw [c_1_1]; decide) (by rw [c_1_1]; decide) (by rw [c_1_1]; rfl) (by decide) ?_
    refine lv_aload_n hx hb dX6_countOf_61 rfl (lv_at hl 0 rfl) ?_
    refine va_get (D := D) (ci := 6) (v := .int (nI Hn)) (C := RX6) (T := TX6) (N := 22) hx hb hts hinX6 hown hE.1 hP 0 rfl rfl 4 (by decide) k_1 (fun _ h9 => h9) rfl dX6_countOf_62 ?_
    exact W.iret (v := nI Hn) hx hb hr (fun t ht hW => ⟨(nI Hn), rfl, (by rw [cntM]; simp [c_1_0, c_1_1]), ht⟩) (fun q h => by cases h) dX6_countOf_65
  by_cases c_1_2 : what = 2
  · refine lv_tableIn (tgt := 66) hx hb dX6_countOf_1 (by rw [c_1_2]; decide) (by rw [c_1_2]; decide) (by rw [c_1_2]; rfl) (by decide) ?_
    refine lv_aload_n hx hb dX6_countOf_66 rfl (lv_at hl 0 rfl) ?_
    refine lv_iconst (v := 1) hx hb dX6_countOf_67 (by decide) ?_
    refine z_roVi (As := [.int 1]) (rest := []) ⟨hx, hb, hml, hown, hts⟩ (c_X6_birds l D cI cZ cA mo apg P ea K Hn ym tm arw ans aro abo Sm asi sd asv kt ky ks akr akn aks ha ns 1 (by first | assumption | omega)) (cwV 1 hts gX6_countOf_X6_birds rfl rfl rfl (by decide +kernel) ⟨Nat.le_of_ble_eq_true rfl, Nat.le_of_ble_eq_true rfl⟩) hE hP [0, 2] rfl 0 6 rfl rfl rfl hl.1 rfl (Nat.le_of_ble_eq_true rfl) dX6_countOf_68 ⟨Nat.zero_le _, Nat.zero_le _⟩ ?_
    exact W.iret (v := (brdN ns 1 Hn)) hx hb hr (fun t ht hW => ⟨(brdN ns 1 Hn), rfl, (by rw [cntM]; simp [c_1_0, c_1_1, c_1_2]), ht⟩) (fun q h => by cases h) dX6_countOf_71
  by_cases c_1_3 : what = 3
  · refine lv_tableIn (tgt := 72) hx hb dX6_countOf_1 (by rw [c_1_3]; decide) (by rw [c_1_3]; decide) (by rw [c_1_3]; rfl) (by decide) ?_
    refine lv_aload_n hx hb dX6_countOf_72 rfl (lv_at hl 0 rfl) ?_
    refine lv_iconst (v := 2) hx hb dX6_countOf_73 (by decide) ?_
    refine z_roVi (As := [.int 2]) (rest := []) ⟨hx, hb, hml, hown, hts⟩ (c_X6_birds l D cI cZ cA mo apg P ea K Hn ym tm arw ans aro abo Sm asi sd asv kt ky ks akr akn aks ha ns 2 (by first | assumption | omega)) (cwV 1 hts gX6_countOf_X6_birds rfl rfl rfl (by decide +kernel) ⟨Nat.le_of_ble_eq_true rfl, Nat.le_of_ble_eq_true rfl⟩) hE hP [0, 2] rfl 0 6 rfl rfl rfl hl.1 rfl (Nat.le_of_ble_eq_true rfl) dX6_countOf_74 ⟨Nat.zero_le _, Nat.zero_le _⟩ ?_
    exact W.iret (v := (brdN ns 2 Hn)) hx hb hr (fun t ht hW => ⟨(brdN ns 2 Hn), rfl, (by rw [cntM]; simp [c_1_0, c_1_1, c_1_2, c_1_3]), ht⟩) (fun q h => by cases h) dX6_countOf_77
  by_cases c_1_4 : what = 4
  · refine lv_tableIn (tgt := 78) hx hb dX6_countOf_1 (by rw [c_1_4]; decide) (by rw [c_1_4]; decide) (by rw [c_1_4]; rfl) (by decide) ?_
    refine lv_aload_n hx hb dX6_countOf_78 rfl (lv_at hl 0 rfl) ?_
    refine lv_bipush (v := 31) hx hb dX6_countOf_79 (by decide) ?_
    refine z_roVi (As := [.int 31]) (rest := []) ⟨hx, hb, hml, hown, hts⟩ (c_X6_eggsIn l D cI cZ cA mo apg P ea K Hn ym tm arw ans aro abo Sm asi sd asv kt ky ks akr akn aks ha ns 31 (by first | assumption | omega)) (cwV 1 hts gX6_countOf_X6_eggsIn rfl rfl rfl (by decide +kernel) ⟨Nat.le_of_ble_eq_true rfl, Nat.le_of_ble_eq_true rfl⟩) hE hP [0, 2] rfl 0 6 rfl rfl rfl hl.1 rfl (Nat.le_of_ble_eq_true rfl) dX6_countOf_81 ⟨Nat.zero_le _, Nat.zero_le _⟩ ?_
    exact W.iret (v := (eInN ns 31 Hn)) hx hb hr (fun t ht hW => ⟨(eInN ns 31 Hn), rfl, (by rw [cntM]; simp [c_1_0, c_1_1, c_1_2, c_1_3, c_1_4]), ht⟩) (fun q h => by cases h) dX6_countOf_84
  by_cases c_1_5 : what = 5
  · refine lv_tableIn (tgt := 85) hx hb dX6_countOf_1 (by rw [c_1_5]; decide) (by rw [c_1_5]; decide) (by rw [c_1_5]; rfl) (by decide) ?_
    refine lv_aload_n hx hb dX6_countOf_85 rfl (lv_at hl 0 rfl) ?_
    refine z_roVi (As := []) (rest := []) ⟨hx, hb, hml, hown, hts⟩ (c_X6_brokenAll l D cI cZ cA mo apg P ea K Hn ym tm arw ans aro abo Sm asi sd asv kt ky ks akr akn aks ha rw (by first | assumption | omega)) (cwV 0 hts gX6_countOf_X6_brokenAll rfl rfl rfl (by decide +kernel) ⟨Nat.le_of_ble_eq_true rfl, Nat.le_of_ble_eq_true rfl⟩) hE hP [0, 1] rfl 0 6 rfl rfl rfl hl.1 rfl (Nat.le_of_ble_eq_true rfl) dX6_countOf_86 ⟨Nat.zero_le _, Nat.zero_le _⟩ ?_
    exact W.iret (v := (brkN rw K)) hx hb hr (fun t ht hW => ⟨(brkN rw K), rfl, (by rw [cntM]; simp [c_1_0, c_1_1, c_1_2, c_1_3, c_1_4, c_1_5]), ht⟩) (fun q h => by cases h) dX6_countOf_89
  by_cases c_1_6 : what = 6
  · refine lv_tableIn (tgt := 90) hx hb dX6_countOf_1 (by rw [c_1_6]; decide) (by rw [c_1_6]; decide) (by rw [c_1_6]; rfl) (by decide) ?_
    refine lv_aload_n hx hb dX6_countOf_90 rfl (lv_at hl 0 rfl) ?_
    refine va_get (D := D) (ci := 6) (v := .int ym) (C := RX6) (T := TX6) (N := 22) hx hb hts hinX6 hown hE.1 hP 0 rfl rfl 5 (by decide) k_2 (fun _ h9 => h9) rfl dX6_countOf_91 ?_
    exact W.iret (v := ym) hx hb hr (fun t ht hW => ⟨ym, rfl, (by rw [cntM]; simp [c_1_0, c_1_1, c_1_2, c_1_3, c_1_4, c_1_5, c_1_6]), ht⟩) (fun q h => by cases h) dX6_countOf_94
  by_cases c_1_7 : what = 7
  · refine lv_tableIn (tgt := 95) hx hb dX6_countOf_1 (by rw [c_1_7]; decide) (by rw [c_1_7]; decide) (by rw [c_1_7]; rfl) (by decide) ?_
    refine lv_aload_n hx hb dX6_countOf_95 rfl (lv_at hl 0 rfl) ?_
    refine va_get (D := D) (ci := 6) (v := .int (nI Sm)) (C := RX6) (T := TX6) (N := 22) hx hb hts hinX6 hown hE.1 hP 0 rfl rfl 11 (by decide) k_3 (fun _ h9 => h9) rfl dX6_countOf_96 ?_
    exact W.iret (v := nI Sm) hx hb hr (fun t ht hW => ⟨(nI Sm), rfl, (by rw [cntM]; simp [c_1_0, c_1_1, c_1_2, c_1_3, c_1_4, c_1_5, c_1_6, c_1_7]), ht⟩) (fun q h => by cases h) dX6_countOf_99
  by_cases c_1_8 : what = 8
  · refine lv_tableIn (tgt := 100) hx hb dX6_countOf_1 (by rw [c_1_8]; decide) (by rw [c_1_8]; decide) (by rw [c_1_8]; rfl) (by decide) ?_
    refine lv_aload_n hx hb dX6_countOf_100 rfl (lv_at hl 0 rfl) ?_
    refine va_get (D := D) (ci := 6) (v := .int (nI P)) (C := RX6) (T := TX6) (N := 22) hx hb hts hinX6 hown hE.1 hP 0 rfl rfl 1 (by decide) k_4 (fun _ h9 => h9) rfl dX6_countOf_101 ?_
    exact W.iret (v := nI P) hx hb hr (fun t ht hW => ⟨(nI P), rfl, (by rw [cntM]; simp [c_1_0, c_1_1, c_1_2, c_1_3, c_1_4, c_1_5, c_1_6, c_1_7, c_1_8]), ht⟩) (fun q h => by cases h) dX6_countOf_104
  by_cases c_1_9 : what = 9
  · refine lv_tableIn (tgt := 105) hx hb dX6_countOf_1 (by rw [c_1_9]; decide) (by rw [c_1_9]; decide) (by rw [c_1_9]; rfl) (by decide) ?_
    refine lv_aload_n hx hb dX6_countOf_105 rfl (lv_at hl 0 rfl) ?_
    refine va_get (D := D) (ci := 6) (v := .int tm) (C := RX6) (T := TX6) (N := 22) hx hb hts hinX6 hown hE.1 hP 0 rfl rfl 6 (by decide) k_5 (fun _ h9 => h9) rfl dX6_countOf_106 ?_
    exact W.iret (v := tm) hx hb hr (fun t ht hW => ⟨tm, rfl, (by rw [cntM]; simp [c_1_0, c_1_1, c_1_2, c_1_3, c_1_4, c_1_5, c_1_6, c_1_7, c_1_8, c_1_9]), ht⟩) (fun q h => by cases h) dX6_countOf_109
  refine lv_tableOut (tgt := 110) hx hb dX6_countOf_1 (zsw (n := 9) (fun j hj => match j, hj with | 0, _ => c_1_0 | 1, _ => c_1_1 | 2, _ => c_1_2 | 3, _ => c_1_3 | 4, _ => c_1_4 | 5, _ => c_1_5 | 6, _ => c_1_6 | 7, _ => c_1_7 | 8, _ => c_1_8 | 9, _ => c_1_9 | k + 10, h => absurd h (by omega)) (by decide)) (by decide) ?_
  refine lv_bipush (v := (-102)) hx hb dX6_countOf_110 (by decide) ?_
  exact W.iret (v := (-102)) hx hb hr (fun t ht hW => ⟨(-102), rfl, (by rw [cntM]; simp [c_1_0, c_1_1, c_1_2, c_1_3, c_1_4, c_1_5, c_1_6, c_1_7, c_1_8, c_1_9]), ht⟩) (fun q h => by cases h) dX6_countOf_112

set_option maxHeartbeats 4000000 in
set_option maxRecDepth 100000 in
theorem c_X6_count (l : Launch) (D : va_G) (cI cZ cA : ClassId) (mo : Nat) (apg : Nat) (P : Nat) (ea : Int32) (K : Nat) (Hn : Nat) (ym : Int32) (tm : Int32) (arw : Nat) (ans : Nat) (aro : Nat) (abo : Nat) (Sm : Nat) (asi : Nat) (sd : Int32) (asv : Nat) (kt : Int32) (ky : Int32) (ks : Nat) (akr : Nat) (akn : Nat) (aks : Nat) (ha : Int64) (rw : Nat → Int32) (ns : Nat → Int32) (what : Int32) (hK : K ≤ 5) (hH : Hn ≤ 5) : Met l yX6_count wsX6_count (zr 3) (va_Pc [.ref mo, .int what] (zPr D cI cZ cA [(mo, .inr (6, [.ref apg, .int (nI P), .int ea, .int (nI K), .int (nI Hn), .int ym, .int tm, .ref arw, .ref ans, .ref aro, .ref abo, .int (nI Sm), .ref asi, .int sd, .ref asv, .int kt, .int ky, .int (nI ks), .ref akr, .ref akn, .ref aks, .long ha])), (arw, .inl (cI, 15, .inl rw)), (ans, .inl (cI, 20, .inl ns))])) (vp_Si (fun r => r = cntM rw ns P K Hn Sm ym tm what)) 0 0 (fun _ => False) := by
  refine Met.ofW (cc := cX6_count) (maxL := 2) (ret := (some .int)) (by decide) rfl ?_
  intro p e s m args below meth c s₁ B hml hv
  obtain ⟨rfl, hP, hE⟩ := hv
  have hx := B.exec
  have hb := B.bytes
  have hr := B.returns
  have hts := atoms_spec (ws := wsX6_count) B.pre
  have hown : s.vm.findClass RX6 = some m.cls := findClass_of_methodNamed B.named
  have hlocks := B.notSynchronized
  have hP : va_P D vwCl [(mo, .inr (6, [.ref apg, .int (nI P), .int ea, .int (nI K), .int (nI Hn), .int ym, .int tm, .ref arw, .ref ans, .ref aro, .ref abo, .int (nI Sm), .ref asi, .int sd, .ref asv, .int kt, .int ky, .int (nI ks), .ref akr, .ref akn, .ref aks, .long ha])), (arw, .inl (cI, 15, .inl rw)), (ans, .inl (cI, 20, .inl ns))] s.heap := hP
  have hl := lv_entry ([.ref mo, .int what]) (n := 2) (Nat.le_of_ble_eq_true rfl)
  rw [lg_entry_eq]
  generalize (lg_sl ([.ref mo, .int what]) ++ List.replicate (2 - (lg_sl ([.ref mo, .int what])).length) Slot.unset).toArray = ls at hl ⊢
  have hl : lv_has ls 2 [(0, .ref mo), (1, .int what)] := hl
  refine lv_aload_n hx hb dX6_count_0 rfl (lv_at hl 0 rfl) ?_
  refine lv_iload_n hx hb dX6_count_1 rfl (lv_at hl 1 rfl) ?_
  refine z_roVi (As := [.int what]) (rest := []) ⟨hx, hb, hml, hown, hts⟩ (c_X6_countOf l D cI cZ cA mo apg P ea K Hn ym tm arw ans aro abo Sm asi sd asv kt ky ks akr akn aks ha rw ns what (by first | assumption | omega) (by first | assumption | omega)) (cwV 1 hts gX6_count_X6_countOf rfl rfl rfl (by decide +kernel) ⟨Nat.le_of_ble_eq_true rfl, Nat.le_of_ble_eq_true rfl⟩) hE hP [0, 1, 2] rfl 0 6 rfl rfl rfl hl.1 rfl (Nat.le_of_ble_eq_true rfl) dX6_count_2 ⟨Nat.zero_le _, Nat.zero_le _⟩ ?_
  exact W.iret (v := (cntM rw ns P K Hn Sm ym tm what)) hx hb hr (fun t ht hW => ⟨(cntM rw ns P K Hn Sm ym tm what), rfl, rfl, ht⟩) (fun q h => by cases h) dX6_count_5
