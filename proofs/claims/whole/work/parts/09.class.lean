
/-! PURE WORDS of the class's methods -/
theorem zl_ge {x y : Int64} (h : 0 ≤ lg_cmp x y) : y ≤ x := zl_nlt (fun q => absurd h (Int32.not_le.mpr q))
theorem zl_nge {x y : Int64} (h : ¬ 0 ≤ lg_cmp x y) : ¬ y ≤ x := fun q => Int64.not_lt.mpr q (zl_lt (Int32.not_le.mp h))
def cst (v : Int32) : Nat → Int32 := fun _ => v
def stN (f : Nat → Int32) (v : Int32) : Nat → Nat → Int32
  | 0 => f
  | i + 1 => upd (stN f v i) i v
theorem stN_lt {f : Nat → Int32} {v : Int32} : ∀ {i j : Nat}, j < i → stN f v i j = v
  | 0, j, h => absurd h (by omega)
  | i + 1, j, h => by
    rw [stN]
    by_cases e : j = i
    · subst e; exact pk_us
    · rw [upd_ne e]
      exact stN_lt (by omega)
theorem zcpy {f g : Nat → Int32} {n j : Nat} (h : j < n) : va_cpy f g 0 0 n j = f j := by
  rw [pk_cpy_in (by omega) (by omega)]
  congr 1
  omega
def cyN (f g : Nat → Int32) : Nat → Nat → Int32
  | 0 => f
  | i + 1 => upd (cyN f g i) i (g i)
theorem cyN_lt {f g : Nat → Int32} : ∀ {i j : Nat}, j < i → cyN f g i j = g j
  | 0, j, h => absurd h (by omega)
  | i + 1, j, h => by
    rw [cyN]
    by_cases e : j = i
    · subst e; exact pk_us
    · rw [upd_ne e]
      exact cyN_lt (by omega)
def stOk (st : Nat → Int32) : Prop := ∀ i : Nat, i < 8 → st i = 0 ∨ st i = 1
theorem stOk_f {st : Nat → Int32} (h : stOk st) {i : Nat} (hi : i < 8) : fits .boolean (.int (st i)) = true := by
  rcases h i hi with q | q <;> rw [q] <;> rfl
def drL (s : Int64) : Int64 := 1103515245 * s + 12345 &&& 2147483647
def drw (s : Int64) : Int64 := drL s / 65536 - drL s / 65536 / 10 * 10
def pySt (K : Nat) (kd fa hd : Nat → Int32) (k : Int32) (h : Nat) (q : Int64 × Int32 × (Nat → Int32)) : Int64 × Int32 × (Nat → Int32) :=
  if (ykAt K kd fa k (hd h)).toInt64 ≤ drw q.1 then (drL q.1, q.2.1 + 1, upd q.2.2 h 0) else (drL q.1, q.2.1, upd q.2.2 h (q.2.2 h + eggY K kd k))
def pH (K : Nat) (kd fa hd lt bd : Nat → Int32) (q : Int64 × Int32 × (Nat → Int32)) : Nat → Int64 × Int32 × (Nat → Int32)
  | 0 => q
  | h + 1 => if bd h = 1 then pySt K kd fa hd (lt h) h (pH K kd fa hd lt bd q h) else pH K kd fa hd lt bd q h
def pY (K Hn : Nat) (kd fa hd lt bd : Nat → Int32) (q : Int64 × Int32 × (Nat → Int32)) : Nat → Int64 × Int32 × (Nat → Int32)
  | 0 => q
  | y + 1 => pH K kd fa hd lt bd (pY K Hn kd fa hd lt bd q y) Hn
def chN (kd sk sh st : Nat → Int32) (k : Nat) (fa : Int32) : Nat → Int64
  | 0 => 1
  | i + 1 => if sk i = nI k then chN kd sk sh st k fa i * (if st i = 0 then (10 - yk (kd k) fa (sh i)).toInt64 else (yk (kd k) fa (sh i)).toInt64) else chN kd sk sh st k fa i
def pfN (w : Nat → Int64) : Nat → Int32
  | 0 => 0
  | v + 1 => if w v ≤ 0 then pfN w v else pfN w v ||| ((1 : Int32) <<< (nI v &&& 31))
def tellC (kd fa lt eg br sk sh st : Nat → Int32) (Sn k : Nat) (what : Int32) : Int32 :=
  if what = 0 then kd k else if what = 1 then fa k else if what = 2 then hOfN lt (nI k) 5 else if what = 3 then eOfN lt eg (nI k) 5 else if what = 4 then br k else if what = 5 then pfN (fun v => chN kd sk sh st k (nI v) Sn) 10 else if what = 6 then likN (fun v => chN kd sk sh st k (nI v) Sn) 10 else -102
def fKeeperC (kd fa lt eg br sk sh st : Nat → Int32) (K Sn : Nat) (k what : Int32) : Int32 := if ¬ k < 0 ∧ k < nI K then tellC kd fa lt eg br sk sh st Sn k.toNatClampNeg what else -101
def fAsC (kd : Nat → Int32) (K : Nat) (k kind : Int32) : Int32 :=
  if ¬ k < 0 ∧ k < nI K then (if 0 ≤ kind ∧ kind ≤ 4 then (if kind = 0 ∨ kd k.toNatClampNeg = kind ∨ (kd k.toNatClampNeg = 4 ∧ kind = 1) then k else -1) else -102) else -101
def fKeepsC (kd fa : Nat → Int32) (K : Nat) (k hard : Int32) : Int32 := if ¬ k < 0 ∧ k < nI K then (if 0 ≤ hard ∧ hard ≤ 9 then ykAt K kd fa k hard else -102) else -101
def tellHC (kd fa hd lt bd eg : Nat → Int32) (K h : Nat) (what : Int32) : Int32 := if what = 0 then hd h else if what = 1 then lt h else if what = 2 then bd h else if what = 3 then eg h else if what = 4 then ykAt K kd fa (lt h) (hd h) else -102
def fHoleC (kd fa hd lt bd eg : Nat → Int32) (K Hn : Nat) (h what : Int32) : Int32 := if ¬ h < 0 ∧ h < nI Hn then tellHC kd fa hd lt bd eg K h.toNatClampNeg what else -101
def fLetC (lt bd : Nat → Int32) (K Hn : Nat) (h k : Int32) : Int32 × (Nat → Int32) × (Nat → Int32) :=
  if (¬ h < 0 ∧ h < nI Hn) ∧ (¬ k < 0 ∧ k < nI K) then (if bd h.toNatClampNeg = 0 ∧ 0 < 2 - bitc (hOfN lt k 5) then (bitc (hOfN (upd lt h.toNatClampNeg k) k 5), upd lt h.toNatClampNeg k, upd bd h.toNatClampNeg 1) else (-103, lt, bd)) else (-101, lt, bd)
def fLeaveC (lt bd eg : Nat → Int32) (Hn : Nat) (h : Int32) : Int32 × (Nat → Int32) × (Nat → Int32) × (Nat → Int32) :=
  if ¬ h < 0 ∧ h < nI Hn then (if bd h.toNatClampNeg = 1 then (eg h.toNatClampNeg, upd lt h.toNatClampNeg (-1), upd bd h.toNatClampNeg 0, upd eg h.toNatClampNeg 0) else (-103, lt, bd, eg)) else (-101, lt, bd, eg)
def yCst (K : Nat) (kd : Nat → Int32) (kept : Int32) (h : Nat) (q : Int32 × (Nat → Int32) × (Nat → Int32) × (Nat → Int32) × (Nat → Int32)) : Int32 × (Nat → Int32) × (Nat → Int32) × (Nat → Int32) × (Nat → Int32) :=
  if ¬ q.2.1 h < 0 ∧ q.2.1 h < nI K then
    (if (kept >>> (nI h &&& 31)) &&& 1 = 1 then (q.1 + 1, q.2.1, q.2.2.1, upd q.2.2.2.1 h (q.2.2.2.1 h + eggY K kd (q.2.1 h)), q.2.2.2.2)
     else (q.1, upd q.2.1 h (-1), upd q.2.2.1 h 2, upd q.2.2.2.1 h 0, upd q.2.2.2.2 (q.2.1 h).toNatClampNeg (q.2.2.2.2 (q.2.1 h).toNatClampNeg + 1)))
  else q
def yCN (K : Nat) (kd : Nat → Int32) (kept : Int32) (lt bd eg br : Nat → Int32) : Nat → Int32 × (Nat → Int32) × (Nat → Int32) × (Nat → Int32) × (Nat → Int32)
  | 0 => (0, lt, bd, eg, br)
  | h + 1 => yCst K kd kept h (yCN K kd kept lt bd eg br h)
def fYearC (kd lt bd eg br : Nat → Int32) (K Hn : Nat) (yr kept : Int32) : Int32 × Int32 × (Nat → Int32) × (Nat → Int32) × (Nat → Int32) × (Nat → Int32) :=
  if ¬ kept < 0 ∧ kept < 1 <<< (nI Hn &&& 31) then (if 0 < K then (if yr < 99 then ((yCN K kd kept lt bd eg br Hn).1, yr + 1, (yCN K kd kept lt bd eg br Hn).2.1, (yCN K kd kept lt bd eg br Hn).2.2.1, (yCN K kd kept lt bd eg br Hn).2.2.2.1, (yCN K kd kept lt bd eg br Hn).2.2.2.2) else (-104, yr, lt, bd, eg, br)) else (-103, yr, lt, bd, eg, br)) else (-102, yr, lt, bd, eg, br)
def fgCst (h : Nat) (q : Int32 × (Nat → Int32) × (Nat → Int32) × (Nat → Int32)) : Int32 × (Nat → Int32) × (Nat → Int32) × (Nat → Int32) := if q.2.2.1 h = 2 then (q.1 + 1, upd q.2.1 h (-1), upd q.2.2.1 h 0, upd q.2.2.2 h 0) else q
def fgCN (lt bd eg : Nat → Int32) : Nat → Int32 × (Nat → Int32) × (Nat → Int32) × (Nat → Int32)
  | 0 => (0, lt, bd, eg)
  | h + 1 => fgCst h (fgCN lt bd eg h)
def abN (K : Nat) (kd fa hd lt bd : Nat → Int32) : Nat → Int64
  | 0 => 1
  | h + 1 => if bd h = 1 then abN K kd fa hd lt bd h * (ykAt K kd fa (lt h) (hd h)).toInt64 else abN K kd fa hd lt bd h
def blN (bd : Nat → Int32) : Nat → Int64
  | 0 => 1
  | h + 1 => if bd h = 1 then blN bd h * 10 else blN bd h
def lowC (part gd : Int64) : Int64 := if gd ≤ 0 then part else part / gd
def sqC (years : Int32) (lw : Int64) : Int64 := if years = 1 then lw else lw * lw
def oddC (kd fa hd lt bd : Nat → Int32) (K Hn : Nat) (years what : Int32) : Int64 :=
  sqC years (lowC (if what = 0 then abN K kd fa hd lt bd Hn else blN bd Hn) (gdN 100 (abN K kd fa hd lt bd Hn) (blN bd Hn)))
def fOddsC (kd fa hd lt bd : Nat → Int32) (K Hn : Nat) (years what : Int32) : Int64 := if (1 ≤ years ∧ years ≤ 2) ∧ (0 ≤ what ∧ what ≤ 1) then (if 0 < K then oddC kd fa hd lt bd K Hn years what else -103) else -102
def fSeeC (sk sh st : Nat → Int32) (K Sn : Nat) (k hard kept : Int32) : Int32 × Nat × (Nat → Int32) × (Nat → Int32) × (Nat → Int32) :=
  if ¬ k < 0 ∧ k < nI K then (if 0 ≤ hard ∧ hard ≤ 9 then (if Sn < 8 then (nI (Sn + 1), Sn + 1, upd sk Sn k, upd sh Sn hard, upd st Sn kept) else (-104, Sn, sk, sh, st)) else (-102, Sn, sk, sh, st)) else (-101, Sn, sk, sh, st)
def cenC (kd fa hd lt bd eg : Nat → Int32) (K Hn many : Nat) (seed what : Int32) : Int32 := if what = 0 then (pY K Hn kd fa hd lt bd (seed.toInt64, 0, eg) many).2.1 else if what = 1 then sumN (pY K Hn kd fa hd lt bd (seed.toInt64, 0, eg) many).2.2 5 else (pY K Hn kd fa hd lt bd (seed.toInt64, 0, eg) many).1.toInt32
def fCenC (kd fa hd lt bd eg ceg : Nat → Int32) (K Hn : Nat) (cbk : Int32) (csd : Int64) (many seed what : Int32) : Int32 × Int32 × Int64 × (Nat → Int32) :=
  if (1 ≤ many ∧ many ≤ 60) ∧ ¬ seed < 0 ∧ (0 ≤ what ∧ what ≤ 2) then (if 0 < K then (cenC kd fa hd lt bd eg K Hn many.toNatClampNeg seed what, (pY K Hn kd fa hd lt bd (seed.toInt64, 0, eg) many.toNatClampNeg).2.1, (pY K Hn kd fa hd lt bd (seed.toInt64, 0, eg) many.toNatClampNeg).1, (pY K Hn kd fa hd lt bd (seed.toInt64, 0, eg) many.toNatClampNeg).2.2) else (-103, cbk, csd, ceg)) else (-102, cbk, csd, ceg)
def cntC (bd eg br : Nat → Int32) (P K Hn Sn : Nat) (yr tr what : Int32) : Int32 :=
  if what = 0 then nI K else if what = 1 then nI Hn else if what = 2 then cntN bd 1 5 else if what = 3 then cntN bd 2 5 else if what = 4 then sumN eg 5 else if what = 5 then sumN br 5 else if what = 6 then yr else if what = 7 then nI Sn else if what = 8 then nI P else if what = 9 then tr else -102
set_option maxHeartbeats 1000000 in
set_option maxRecDepth 100000 in
theorem c_J7_fill_53178 (l : Launch) (D : va_G) (cI cZ cA : ClassId) (sz : Nat) (a0 : Nat) (f0 : Nat → Int32) (v0 : Int32)  : Met l yJ7_fill_53178 wsJ7_fill_53178 (zr 1) (va_Pc [.ref a0, .int v0] (zPw D cI cZ cA [(a0, .inl (cI, 5, .inl f0))] sz)) (va_Qv (fun (_ : Unit) => True) (zB D [(a0, .inl (cI, 5, .inl (cst v0)))] (va_A [(a0, .inl (cI, 5, .inl f0))] sz)) (va_A [(a0, .inl (cI, 5, .inl f0))] sz)) 0 0 (va_A [(a0, .inl (cI, 5, .inl f0))] sz) := by
  refine Met.ofW (cc := cJ7_fill_53178) (maxL := 4) (ret := none) (by decide) rfl ?_
  intro p e s m args below meth c s₁ B hml hv
  obtain ⟨rfl, hsz, hP, hD0, hE⟩ := hv
  have hx := B.exec
  have hb := B.bytes
  have hr := B.returns
  have hts := atoms_spec (ws := wsJ7_fill_53178) B.pre
  have hown : s.vm.findClass RJ7 = some m.cls := findClass_of_methodNamed B.named
  have hlocks := B.notSynchronized
  subst hsz
  have hD := hD0.self (sz := s.heap.size)
  generalize hAe : va_A [(a0, .inl (cI, 5, .inl f0))] s.heap.size = A at hD ⊢
  have hA : ∀ q : Nat, s.heap.size ≤ q → A q := fun q h => by rw [← hAe]; exact Or.inr h
  have hS : va_S A s.heap s.heap [] := va_S.rf
  have hP : va_P D vwCl [(a0, .inl (cI, 5, .inl f0))] s.heap := hP
  have hD : va_D A [(a0, .inl (cI, 5, .inl f0))] := hD
  have hl := lv_entry ([.ref a0, .int v0]) (n := 4) (Nat.le_of_ble_eq_true rfl)
  rw [lg_entry_eq]
  generalize (lg_sl ([.ref a0, .int v0]) ++ List.replicate (4 - (lg_sl ([.ref a0, .int v0])).length) Slot.unset).toArray = ls at hl ⊢
  have hl : lv_has ls 4 [(0, .ref a0), (1, .int v0)] := hl
  refine lv_iconst (v := 0) hx hb dJ7_fill_53178_0 (by decide) ?_
  refine lv_istore_n (lv' := [(2, .int 0), (0, .ref a0), (1, .int v0)]) hx hb dJ7_fill_53178_1 rfl hl (by decide) rfl (fun ls hl => ?_)
  refine lv_aload_n hx hb dJ7_fill_53178_2 rfl (lv_at hl 1 rfl) ?_
  refine z_alen hx hb hE hP 0 rfl dJ7_fill_53178_3 ?_
  refine lv_istore_n (lv' := [(3, .int (nI 5)), (2, .int 0), (0, .ref a0), (1, .int v0)]) hx hb dJ7_fill_53178_4 rfl hl (by decide) rfl (fun ls hl => ?_)
  have hc5_1 : ∀ (n : Nat) (i : Nat), (i ≤ 5) → (5 + 1 ≤ i + n) → ∀ (w2 : Int32), w2 = nI i → ∀ (wf : Nat → Int32), wf = stN f0 v0 i → ∀ (H : Heap) (locs : List Loc), va_P D vwCl [(a0, .inl (cI, 5, .inl wf))] H → va_D A [(a0, .inl (cI, 5, .inl wf))] → va_S A s.heap H locs → ∀ (ls : Array Slot), lv_has ls 4 [(3, .int (nI 5)), (2, .int w2), (0, .ref a0), (1, .int v0)] → W p l e (headSpec wsJ7_fill_53178 (zr 1)).room s m ([.ref a0, .int v0] : List Value).toArray below meth c H locs 0 0 (MQ below (va_Qv (fun (_ : Unit) => True) (zB D [(a0, .inl (cI, 5, .inl (cst v0)))] A) A) ([.ref a0, .int v0] : List Value).toArray s 0 0 A) (F0 m 5 ls []) := by
    intro n
    induction n with
    | zero => intro i hi hfu; exact absurd hfu (by omega)
    | succ n ihhc5_1 =>
      intro i hi hfu w2 ew2 wf ewf H locs hP hD hS ls hl
      subst ew2
      subst ewf
      refine lv_iload_n hx hb dJ7_fill_53178_5 rfl (lv_at hl 1 rfl) ?_
      refine lv_iload_n hx hb dJ7_fill_53178_6 rfl (lv_at hl 0 rfl) ?_
      refine lv_icmp_ge (tgt := 20) hx hb dJ7_fill_53178_7 (by decide) (fun c_7 => ?_) (fun c_7 => ?_)
      · have n_7 := zn_le (a := 5) (b := i) rfl rfl c_7 (by omega) (by omega)
        obtain rfl : 5 = i := by omega
        have hP := z_Pext hP 0 rfl (g := cst v0) (fun j hj => stN_lt hj)
        have hD := hD.set (p := 0) (e := .inl (cI, 5, .inl (cst v0))) rfl
        have hP : va_P D vwCl [(a0, .inl (cI, 5, .inl (cst v0)))] _ := hP
        have hD : va_D A [(a0, .inl (cI, 5, .inl (cst v0)))] := hD
        have hP9 := hP.sub (ws' := [(a0, .inl (cI, 5, .inl (cst v0)))]) [0] rfl
        have hD9 := hD.sub (ws' := [(a0, .inl (cI, 5, .inl (cst v0)))]) [0] (by decide) rfl
        exact W.vret hx hb hr (fun t ht hW => ⟨⟨(), rfl, trivial, by rw [ht]; exact hP9, hD9⟩, hS.F ht⟩) hS.2.2 dJ7_fill_53178_20
      · have n_7 := zn_nle (a := 5) (b := i) rfl rfl c_7 (by omega) (by omega)
        refine lv_aload_n hx hb dJ7_fill_53178_10 rfl (lv_at hl 2 rfl) ?_
        refine lv_iload_n hx hb dJ7_fill_53178_11 rfl (lv_at hl 1 rfl) ?_
        refine lv_iload_n hx hb dJ7_fill_53178_12 rfl (lv_at hl 3 rfl) ?_
        refine z_iast hx hb hE hP hD hS 0 rfl (j := i) rfl (by omega) (by decide) dJ7_fill_53178_13 (fun H locs hP hD hS => ?_)
        have hP : va_P D vwCl [(a0, .inl (cI, 5, .inl (upd (stN f0 v0 i) i v0)))] H := hP
        have hD : va_D A [(a0, .inl (cI, 5, .inl (upd (stN f0 v0 i) i v0)))] := hD
        refine lv_iinc (v := nI (i + 1)) (lv' := [(2, .int (nI (i + 1))), (3, .int (nI 5)), (0, .ref a0), (1, .int v0)]) hx hb dJ7_fill_53178_14 hl (k := 1) rfl (nI_add i 1) (by decide) rfl (fun ls hl => ?_)
        refine lv_goto (tgt := 5) hx hb dJ7_fill_53178_17 (by decide) ?_
        exact ihhc5_1 (i + 1) (by omega) (by omega) (nI (i + 1)) rfl (upd (stN f0 v0 i) i v0) rfl _ _ (hP.sub [0] rfl) (hD.sub [0] (by decide) rfl) hS ls (lv_sub hl [1, 0, 2, 3] rfl)
  exact hc5_1 (5 + 1) 0 (by omega) (by omega) 0 rfl f0 rfl _ _ (hP.sub [0] rfl) (hD.sub [0] (by decide) rfl) hS ls (lv_sub hl [0, 1, 2, 3] rfl)

set_option maxHeartbeats 1000000 in
set_option maxRecDepth 100000 in
theorem c_X0_clear (l : Launch) (D : va_G) (cI cZ cA : ClassId) (sz : Nat) (bk : Nat) (alt : Nat) (abd : Nat) (aeg : Nat) (abr : Nat) (ask : Nat) (ash : Nat) (ast : Nat) (sn : Nat) (yr : Int32) (lt : Nat → Int32) (bd : Nat → Int32) (eg : Nat → Int32) (br : Nat → Int32)  : Met l yX0_clear wsX0_clear (zr 2) (va_Pc [.ref bk] (zPw D cI cZ cA [(bk, .inr (0, [.ref alt, .ref abd, .ref aeg, .ref abr, .ref ask, .ref ash, .ref ast, .int (nI sn), .int yr])), (alt, .inl (cI, 5, .inl lt)), (abd, .inl (cI, 5, .inl bd)), (aeg, .inl (cI, 5, .inl eg)), (abr, .inl (cI, 5, .inl br))] sz)) (va_Qv (fun (_ : Unit) => True) (zB D [(bk, .inr (0, [.ref alt, .ref abd, .ref aeg, .ref abr, .ref ask, .ref ash, .ref ast, .int (nI 0), .int 0])), (alt, .inl (cI, 5, .inl (cst (-1)))), (abd, .inl (cI, 5, .inl (cst 0))), (aeg, .inl (cI, 5, .inl (cst 0))), (abr, .inl (cI, 5, .inl (cst 0)))] (va_A [(bk, .inr (0, [.ref alt, .ref abd, .ref aeg, .ref abr, .ref ask, .ref ash, .ref ast, .int (nI sn), .int yr])), (alt, .inl (cI, 5, .inl lt)), (abd, .inl (cI, 5, .inl bd)), (aeg, .inl (cI, 5, .inl eg)), (abr, .inl (cI, 5, .inl br))] sz)) (va_A [(bk, .inr (0, [.ref alt, .ref abd, .ref aeg, .ref abr, .ref ask, .ref ash, .ref ast, .int (nI sn), .int yr])), (alt, .inl (cI, 5, .inl lt)), (abd, .inl (cI, 5, .inl bd)), (aeg, .inl (cI, 5, .inl eg)), (abr, .inl (cI, 5, .inl br))] sz)) 0 0 (va_A [(bk, .inr (0, [.ref alt, .ref abd, .ref aeg, .ref abr, .ref ask, .ref ash, .ref ast, .int (nI sn), .int yr])), (alt, .inl (cI, 5, .inl lt)), (abd, .inl (cI, 5, .inl bd)), (aeg, .inl (cI, 5, .inl eg)), (abr, .inl (cI, 5, .inl br))] sz) := by
  refine Met.ofW (cc := cX0_clear) (maxL := 2) (ret := none) (by decide) rfl ?_
  intro p e s m args below meth c s₁ B hml hv
  obtain ⟨rfl, hsz, hP, hD0, hE⟩ := hv
  have hx := B.exec
  have hb := B.bytes
  have hr := B.returns
  have hts := atoms_spec (ws := wsX0_clear) B.pre
  have hown : s.vm.findClass RX0 = some m.cls := findClass_of_methodNamed B.named
  have hlocks := B.notSynchronized
  subst hsz
  have hD := hD0.self (sz := s.heap.size)
  generalize hAe : va_A [(bk, .inr (0, [.ref alt, .ref abd, .ref aeg, .ref abr, .ref ask, .ref ash, .ref ast, .int (nI sn), .int yr])), (alt, .inl (cI, 5, .inl lt)), (abd, .inl (cI, 5, .inl bd)), (aeg, .inl (cI, 5, .inl eg)), (abr, .inl (cI, 5, .inl br))] s.heap.size = A at hD ⊢
  have hA : ∀ q : Nat, s.heap.size ≤ q → A q := fun q h => by rw [← hAe]; exact Or.inr h
  have hS : va_S A s.heap s.heap [] := va_S.rf
  have hP : va_P D vwCl [(bk, .inr (0, [.ref alt, .ref abd, .ref aeg, .ref abr, .ref ask, .ref ash, .ref ast, .int (nI sn), .int yr])), (alt, .inl (cI, 5, .inl lt)), (abd, .inl (cI, 5, .inl bd)), (aeg, .inl (cI, 5, .inl eg)), (abr, .inl (cI, 5, .inl br))] s.heap := hP
  have hD : va_D A [(bk, .inr (0, [.ref alt, .ref abd, .ref aeg, .ref abr, .ref ask, .ref ash, .ref ast, .int (nI sn), .int yr])), (alt, .inl (cI, 5, .inl lt)), (abd, .inl (cI, 5, .inl bd)), (aeg, .inl (cI, 5, .inl eg)), (abr, .inl (cI, 5, .inl br))] := hD
  have hl := lv_entry ([.ref bk]) (n := 2) (Nat.le_of_ble_eq_true rfl)
  rw [lg_entry_eq]
  generalize (lg_sl ([.ref bk]) ++ List.replicate (2 - (lg_sl ([.ref bk])).length) Slot.unset).toArray = ls at hl ⊢
  have hl : lv_has ls 2 [(0, .ref bk)] := hl
  have hinX0 : ∀ w ∈ wsX00, w ∈ wsX0_clear := fun w h => List.mem_cons_of_mem _ (List.mem_append_right _ h)
  have k_0 := hts (.fieldLink RX0 21 "VowDoves$Book" "broken" "[I") (by decide +kernel)
  have k_1 := hts (.fieldLink RX0 44 "VowDoves$Book" "seen" "I") (by decide +kernel)
  have k_2 := hts (.fieldLink RX0 48 "VowDoves$Book" "years" "I") (by decide +kernel)
  refine lv_iconst (v := 0) hx hb dX0_clear_0 (by decide) ?_
  refine lv_istore_n (lv' := [(1, .int 0), (0, .ref bk)]) hx hb dX0_clear_1 rfl hl (by decide) rfl (fun ls hl => ?_)
  have hc2_1 : ∀ (n : Nat) (i : Nat), (i ≤ 5) → (5 + 1 ≤ i + n) → ∀ (w1 : Int32), w1 = nI i → ∀ (wl : Nat → Int32), wl = stN lt (-1) i → ∀ (wb : Nat → Int32), wb = stN bd 0 i → ∀ (we : Nat → Int32), we = stN eg 0 i → ∀ (H : Heap) (locs : List Loc), va_P D vwCl [(bk, .inr (0, [.ref alt, .ref abd, .ref aeg, .ref abr, .ref ask, .ref ash, .ref ast, .int (nI sn), .int yr])), (alt, .inl (cI, 5, .inl wl)), (abd, .inl (cI, 5, .inl wb)), (aeg, .inl (cI, 5, .inl we)), (abr, .inl (cI, 5, .inl br))] H → va_D A [(bk, .inr (0, [.ref alt, .ref abd, .ref aeg, .ref abr, .ref ask, .ref ash, .ref ast, .int (nI sn), .int yr])), (alt, .inl (cI, 5, .inl wl)), (abd, .inl (cI, 5, .inl wb)), (aeg, .inl (cI, 5, .inl we)), (abr, .inl (cI, 5, .inl br))] → va_S A s.heap H locs → ∀ (ls : Array Slot), lv_has ls 2 [(1, .int w1), (0, .ref bk)] → W p l e (headSpec wsX0_clear (zr 2)).room s m ([.ref bk] : List Value).toArray below meth c H locs 0 0 (MQ below (va_Qv (fun (_ : Unit) => True) (zB D [(bk, .inr (0, [.ref alt, .ref abd, .ref aeg, .ref abr, .ref ask, .ref ash, .ref ast, .int (nI 0), .int 0])), (alt, .inl (cI, 5, .inl (cst (-1)))), (abd, .inl (cI, 5, .inl (cst 0))), (aeg, .inl (cI, 5, .inl (cst 0))), (abr, .inl (cI, 5, .inl (cst 0)))] A) A) ([.ref bk] : List Value).toArray s 0 0 A) (F0 m 2 ls []) := by
    intro n
    induction n with
    | zero => intro i hi hfu; exact absurd hfu (by omega)
    | succ n ihhc2_1 =>
      intro i hi hfu w1 ew1 wl ewl wb ewb we ewe H locs hP hD hS ls hl
      subst ew1
      subst ewl
      subst ewb
      subst ewe
      refine lv_iload_n hx hb dX0_clear_2 rfl (lv_at hl 0 rfl) ?_
      refine lv_iconst (v := 5) hx hb dX0_clear_3 (by decide) ?_
      refine lv_icmp_ge (tgt := 19) hx hb dX0_clear_4 (by decide) (fun c_4 => ?_) (fun c_4 => ?_)
      · have n_4 := zn_le (a := 5) (b := i) rfl rfl c_4 (by omega) (by omega)
        obtain rfl : 5 = i := by omega
        have hP := z_Pext hP 1 rfl (g := cst (-1)) (fun j hj => stN_lt hj)
        have hD := hD.set (p := 1) (e := .inl (cI, 5, .inl (cst (-1)))) rfl
        have hP : va_P D vwCl [(bk, .inr (0, [.ref alt, .ref abd, .ref aeg, .ref abr, .ref ask, .ref ash, .ref ast, .int (nI sn), .int yr])), (alt, .inl (cI, 5, .inl (cst (-1)))), (abd, .inl (cI, 5, .inl (stN bd 0 5))), (aeg, .inl (cI, 5, .inl (stN eg 0 5))), (abr, .inl (cI, 5, .inl br))] _ := hP
        have hD : va_D A [(bk, .inr (0, [.ref alt, .ref abd, .ref aeg, .ref abr, .ref ask, .ref ash, .ref ast, .int (nI sn), .int yr])), (alt, .inl (cI, 5, .inl (cst (-1)))), (abd, .inl (cI, 5, .inl (stN bd 0 5))), (aeg, .inl (cI, 5, .inl (stN eg 0 5))), (abr, .inl (cI, 5, .inl br))] := hD
        have hP := z_Pext hP 2 rfl (g := cst 0) (fun j hj => stN_lt hj)
        have hD := hD.set (p := 2) (e := .inl (cI, 5, .inl (cst 0))) rfl
        have hP : va_P D vwCl [(bk, .inr (0, [.ref alt, .ref abd, .ref aeg, .ref abr, .ref ask, .ref ash, .ref ast, .int (nI sn), .int yr])), (alt, .inl (cI, 5, .inl (cst (-1)))), (abd, .inl (cI, 5, .inl (cst 0))), (aeg, .inl (cI, 5, .inl (stN eg 0 5))), (abr, .inl (cI, 5, .inl br))] _ := hP
        have hD : va_D A [(bk, .inr (0, [.ref alt, .ref abd, .ref aeg, .ref abr, .ref ask, .ref ash, .ref ast, .int (nI sn), .int yr])), (alt, .inl (cI, 5, .inl (cst (-1)))), (abd, .inl (cI, 5, .inl (cst 0))), (aeg, .inl (cI, 5, .inl (stN eg 0 5))), (abr, .inl (cI, 5, .inl br))] := hD
        have hP := z_Pext hP 3 rfl (g := cst 0) (fun j hj => stN_lt hj)
        have hD := hD.set (p := 3) (e := .inl (cI, 5, .inl (cst 0))) rfl
        have hP : va_P D vwCl [(bk, .inr (0, [.ref alt, .ref abd, .ref aeg, .ref abr, .ref ask, .ref ash, .ref ast, .int (nI sn), .int yr])), (alt, .inl (cI, 5, .inl (cst (-1)))), (abd, .inl (cI, 5, .inl (cst 0))), (aeg, .inl (cI, 5, .inl (cst 0))), (abr, .inl (cI, 5, .inl br))] _ := hP
        have hD : va_D A [(bk, .inr (0, [.ref alt, .ref abd, .ref aeg, .ref abr, .ref ask, .ref ash, .ref ast, .int (nI sn), .int yr])), (alt, .inl (cI, 5, .inl (cst (-1)))), (abd, .inl (cI, 5, .inl (cst 0))), (aeg, .inl (cI, 5, .inl (cst 0))), (abr, .inl (cI, 5, .inl br))] := hD
        refine lv_aload_n hx hb dX0_clear_19 rfl (lv_at hl 1 rfl) ?_
        refine va_get (D := D) (ci := 0) (v := .ref abr) (C := RX0) (T := TX0) (N := 9) hx hb hts hinX0 hown hE.1 hP 0 rfl rfl 3 (by decide) k_0 (fun _ h9 => h9) rfl dX0_clear_20 ?_
        refine lv_iconst (v := 0) hx hb dX0_clear_23 (by decide) ?_
        refine z_rwSv (As := [.ref abr, .int 0]) (rest := []) (wr := [(bk, .inr (0, [.ref alt, .ref abd, .ref aeg, .ref abr, .ref ask, .ref ash, .ref ast, .int (nI sn), .int yr])), (alt, .inl (cI, 5, .inl (cst (-1)))), (abd, .inl (cI, 5, .inl (cst 0))), (aeg, .inl (cI, 5, .inl (cst 0)))]) (w1 := [(abr, .inl (cI, 5, .inl (cst 0)))]) ⟨hx, hb, hml, hown, hts⟩ (c_J7_fill_53178 l D cI cZ cA _ abr br 0 ) (va_cwS 2 hts gX0_clear_J7_fill_53178 rfl rfl rfl (by decide +kernel) ⟨Nat.le_of_ble_eq_true rfl, Nat.le_of_ble_eq_true rfl⟩) hE hP hD hS hA [4] [0, 1, 2, 3] rfl rfl rfl (by decide) (by decide) (by decide) rfl hl.1 rfl (Nat.le_of_ble_eq_true rfl) dX0_clear_24 ⟨Nat.zero_le _, Nat.zero_le _⟩ (fun H locs hP hD hS => ?_)
        have hP : va_P D vwCl [(bk, .inr (0, [.ref alt, .ref abd, .ref aeg, .ref abr, .ref ask, .ref ash, .ref ast, .int (nI sn), .int yr])), (alt, .inl (cI, 5, .inl (cst (-1)))), (abd, .inl (cI, 5, .inl (cst 0))), (aeg, .inl (cI, 5, .inl (cst 0))), (abr, .inl (cI, 5, .inl (cst 0)))] H := hP
        have hD : va_D A [(bk, .inr (0, [.ref alt, .ref abd, .ref aeg, .ref abr, .ref ask, .ref ash, .ref ast, .int (nI sn), .int yr])), (alt, .inl (cI, 5, .inl (cst (-1)))), (abd, .inl (cI, 5, .inl (cst 0))), (aeg, .inl (cI, 5, .inl (cst 0))), (abr, .inl (cI, 5, .inl (cst 0)))] := hD
        refine lv_aload_n hx hb dX0_clear_27 rfl (lv_at hl 1 rfl) ?_
        refine lv_iconst (v := 0) hx hb dX0_clear_28 (by decide) ?_
        refine va_put (D := D) (ci := 0) (v := .int 0) (ty := .int) (C := RX0) (T := TX0) (N := 9) hx hb hts hinX0 tyX0 tyX0_ok nmX0 hown hE.1 hP hD hS 0 rfl rfl 7 (by decide) k_1 (fun _ h9 => h9) rfl (by decide +kernel) rfl rfl (Nat.le_of_ble_eq_true rfl) dX0_clear_29 (fun H locs hP hD hS => ?_)
        have hP : va_P D vwCl [(bk, .inr (0, [.ref alt, .ref abd, .ref aeg, .ref abr, .ref ask, .ref ash, .ref ast, .int 0, .int yr])), (alt, .inl (cI, 5, .inl (cst (-1)))), (abd, .inl (cI, 5, .inl (cst 0))), (aeg, .inl (cI, 5, .inl (cst 0))), (abr, .inl (cI, 5, .inl (cst 0)))] H := hP
        have hD : va_D A [(bk, .inr (0, [.ref alt, .ref abd, .ref aeg, .ref abr, .ref ask, .ref ash, .ref ast, .int 0, .int yr])), (alt, .inl (cI, 5, .inl (cst (-1)))), (abd, .inl (cI, 5, .inl (cst 0))), (aeg, .inl (cI, 5, .inl (cst 0))), (abr, .inl (cI, 5, .inl (cst 0)))] := hD
        refine lv_aload_n hx hb dX0_clear_32 rfl (lv_at hl 1 rfl) ?_
        refine lv_iconst (v := 0) hx hb dX0_clear_33 (by decide) ?_
        refine va_put (D := D) (ci := 0) (v := .int 0) (ty := .int) (C := RX0) (T := TX0) (N := 9) hx hb hts hinX0 tyX0 tyX0_ok nmX0 hown hE.1 hP hD hS 0 rfl rfl 8 (by decide) k_2 (fun _ h9 => h9) rfl (by decide +kernel) rfl rfl (Nat.le_of_ble_eq_true rfl) dX0_clear_34 (fun H locs hP hD hS => ?_)
        have hP : va_P D vwCl [(bk, .inr (0, [.ref alt, .ref abd, .ref aeg, .ref abr, .ref ask, .ref ash, .ref ast, .int 0, .int 0])), (alt, .inl (cI, 5, .inl (cst (-1)))), (abd, .inl (cI, 5, .inl (cst 0))), (aeg, .inl (cI, 5, .inl (cst 0))), (abr, .inl (cI, 5, .inl (cst 0)))] H := hP
        have hD : va_D A [(bk, .inr (0, [.ref alt, .ref abd, .ref aeg, .ref abr, .ref ask, .ref ash, .ref ast, .int 0, .int 0])), (alt, .inl (cI, 5, .inl (cst (-1)))), (abd, .inl (cI, 5, .inl (cst 0))), (aeg, .inl (cI, 5, .inl (cst 0))), (abr, .inl (cI, 5, .inl (cst 0)))] := hD
        have hP9 := hP.sub (ws' := [(bk, .inr (0, [.ref alt, .ref abd, .ref aeg, .ref abr, .ref ask, .ref ash, .ref ast, .int (nI 0), .int 0])), (alt, .inl (cI, 5, .inl (cst (-1)))), (abd, .inl (cI, 5, .inl (cst 0))), (aeg, .inl (cI, 5, .inl (cst 0))), (abr, .inl (cI, 5, .inl (cst 0)))]) [0, 1, 2, 3, 4] rfl
        have hD9 := hD.sub (ws' := [(bk, .inr (0, [.ref alt, .ref abd, .ref aeg, .ref abr, .ref ask, .ref ash, .ref ast, .int (nI 0), .int 0])), (alt, .inl (cI, 5, .inl (cst (-1)))), (abd, .inl (cI, 5, .inl (cst 0))), (aeg, .inl (cI, 5, .inl (cst 0))), (abr, .inl (cI, 5, .inl (cst 0)))]) [0, 1, 2, 3, 4] (by decide) rfl
        exact W.vret hx hb hr (fun t ht hW => ⟨⟨(), rfl, trivial, by rw [ht]; exact hP9, hD9⟩, hS.F ht⟩) hS.2.2 dX0_clear_37
      · have n_4 := zn_nle (a := 5) (b := i) rfl rfl c_4 (by omega) (by omega)
        refine lv_aload_n hx hb dX0_clear_7 rfl (lv_at hl 1 rfl) ?_
        refine lv_iload_n hx hb dX0_clear_8 rfl (lv_at hl 0 rfl) ?_
        refine lv_iconst (v := 0) hx hb dX0_clear_9 (by decide) ?_
        refine z_rwVv (As := [.int (nI i), .int 0]) (rest := []) (wr := [(abr, .inl (cI, 5, .inl br))]) (w1 := [(bk, .inr (0, [.ref alt, .ref abd, .ref aeg, .ref abr, .ref ask, .ref ash, .ref ast, .int (nI sn), .int yr])), (alt, .inl (cI, 5, .inl (upd (stN lt (-1) i) i (-1)))), (abd, .inl (cI, 5, .inl (upd (stN bd 0 i) i 0))), (aeg, .inl (cI, 5, .inl (upd (stN eg 0 i) i 0)))]) ⟨hx, hb, hml, hown, hts⟩ (c_X0_empty l D cI cZ cA _ bk alt abd aeg abr ask ash ast sn yr (stN lt (-1) i) (stN bd 0 i) (stN eg 0 i) i 0 (by first | assumption | omega)) (cwV 2 hts gX0_clear_X0_empty rfl rfl rfl (by decide +kernel) ⟨Nat.le_of_ble_eq_true rfl, Nat.le_of_ble_eq_true rfl⟩) hE hP hD hS hA [0, 1, 2, 3] [4] rfl rfl rfl (by decide) (by decide) (by decide) 0 0 rfl rfl rfl hl.1 rfl (Nat.le_of_ble_eq_true rfl) dX0_clear_10 ⟨Nat.zero_le _, Nat.zero_le _⟩ (fun H locs hP hD hS => ?_)
        have hP : va_P D vwCl [(abr, .inl (cI, 5, .inl br)), (bk, .inr (0, [.ref alt, .ref abd, .ref aeg, .ref abr, .ref ask, .ref ash, .ref ast, .int (nI sn), .int yr])), (alt, .inl (cI, 5, .inl (upd (stN lt (-1) i) i (-1)))), (abd, .inl (cI, 5, .inl (upd (stN bd 0 i) i 0))), (aeg, .inl (cI, 5, .inl (upd (stN eg 0 i) i 0)))] H := hP
        have hD : va_D A [(abr, .inl (cI, 5, .inl br)), (bk, .inr (0, [.ref alt, .ref abd, .ref aeg, .ref abr, .ref ask, .ref ash, .ref ast, .int (nI sn), .int yr])), (alt, .inl (cI, 5, .inl (upd (stN lt (-1) i) i (-1)))), (abd, .inl (cI, 5, .inl (upd (stN bd 0 i) i 0))), (aeg, .inl (cI, 5, .inl (upd (stN eg 0 i) i 0)))] := hD
        refine lv_iinc (v := nI (i + 1)) (lv' := [(1, .int (nI (i + 1))), (0, .ref bk)]) hx hb dX0_clear_13 hl (k := 0) rfl (nI_add i 1) (by decide) rfl (fun ls hl => ?_)
        refine lv_goto (tgt := 2) hx hb dX0_clear_16 (by decide) ?_
        exact ihhc2_1 (i + 1) (by omega) (by omega) (nI (i + 1)) rfl (upd (stN lt (-1) i) i (-1)) rfl (upd (stN bd 0 i) i 0) rfl (upd (stN eg 0 i) i 0) rfl _ _ (hP.sub [1, 2, 3, 4, 0] rfl) (hD.sub [1, 2, 3, 4, 0] (by decide) rfl) hS ls (lv_sub hl [0, 1] rfl)
  exact hc2_1 (5 + 1) 0 (by omega) (by omega) 0 rfl lt rfl bd rfl eg rfl _ _ (hP.sub [0, 1, 2, 3, 4] rfl) (hD.sub [0, 1, 2, 3, 4] (by decide) rfl) hS ls (lv_sub hl [0, 1] rfl)

set_option maxHeartbeats 1000000 in
set_option maxRecDepth 100000 in
theorem c_X0_copyFrom (l : Launch) (D : va_G) (cI cZ cA : ClassId) (sz : Nat) (bk : Nat) (alt : Nat) (abd : Nat) (aeg : Nat) (abr : Nat) (ask : Nat) (ash : Nat) (ast : Nat) (sn : Nat) (yr : Int32) (lt : Nat → Int32) (bd : Nat → Int32) (eg : Nat → Int32) (br : Nat → Int32) (sk : Nat → Int32) (sh : Nat → Int32) (st : Nat → Int32) (b2 : Nat) (alt2 : Nat) (abd2 : Nat) (aeg2 : Nat) (abr2 : Nat) (ask2 : Nat) (ash2 : Nat) (ast2 : Nat) (sn2 : Nat) (yr2 : Int32) (lt2 : Nat → Int32) (bd2 : Nat → Int32) (eg2 : Nat → Int32) (br2 : Nat → Int32) (sk2 : Nat → Int32) (sh2 : Nat → Int32) (st2 : Nat → Int32) (hst : stOk st2) : Met l yX0_copyFrom wsX0_copyFrom (zr 1) (va_Pc [.ref bk, .ref b2] (zPw D cI cZ cA [(bk, .inr (0, [.ref alt, .ref abd, .ref aeg, .ref abr, .ref ask, .ref ash, .ref ast, .int (nI sn), .int yr])), (alt, .inl (cI, 5, .inl lt)), (abd, .inl (cI, 5, .inl bd)), (aeg, .inl (cI, 5, .inl eg)), (abr, .inl (cI, 5, .inl br)), (ask, .inl (cI, 8, .inl sk)), (ash, .inl (cI, 8, .inl sh)), (ast, .inl (cZ, 8, .inl st)), (b2, .inr (0, [.ref alt2, .ref abd2, .ref aeg2, .ref abr2, .ref ask2, .ref ash2, .ref ast2, .int (nI sn2), .int yr2])), (alt2, .inl (cI, 5, .inl lt2)), (abd2, .inl (cI, 5, .inl bd2)), (aeg2, .inl (cI, 5, .inl eg2)), (abr2, .inl (cI, 5, .inl br2)), (ask2, .inl (cI, 8, .inl sk2)), (ash2, .inl (cI, 8, .inl sh2)), (ast2, .inl (cZ, 8, .inl st2))] sz)) (va_Qv (fun (_ : Unit) => True) (zB D [(bk, .inr (0, [.ref alt, .ref abd, .ref aeg, .ref abr, .ref ask, .ref ash, .ref ast, .int (nI sn2), .int yr2])), (alt, .inl (cI, 5, .inl lt2)), (abd, .inl (cI, 5, .inl bd2)), (aeg, .inl (cI, 5, .inl eg2)), (abr, .inl (cI, 5, .inl br2)), (ask, .inl (cI, 8, .inl sk2)), (ash, .inl (cI, 8, .inl sh2)), (ast, .inl (cZ, 8, .inl st2)), (b2, .inr (0, [.ref alt2, .ref abd2, .ref aeg2, .ref abr2, .ref ask2, .ref ash2, .ref ast2, .int (nI sn2), .int yr2])), (alt2, .inl (cI, 5, .inl lt2)), (abd2, .inl (cI, 5, .inl bd2)), (aeg2, .inl (cI, 5, .inl eg2)), (abr2, .inl (cI, 5, .inl br2)), (ask2, .inl (cI, 8, .inl sk2)), (ash2, .inl (cI, 8, .inl sh2)), (ast2, .inl (cZ, 8, .inl st2))] (va_A [(bk, .inr (0, [.ref alt, .ref abd, .ref aeg, .ref abr, .ref ask, .ref ash, .ref ast, .int (nI sn), .int yr])), (alt, .inl (cI, 5, .inl lt)), (abd, .inl (cI, 5, .inl bd)), (aeg, .inl (cI, 5, .inl eg)), (abr, .inl (cI, 5, .inl br)), (ask, .inl (cI, 8, .inl sk)), (ash, .inl (cI, 8, .inl sh)), (ast, .inl (cZ, 8, .inl st)), (b2, .inr (0, [.ref alt2, .ref abd2, .ref aeg2, .ref abr2, .ref ask2, .ref ash2, .ref ast2, .int (nI sn2), .int yr2])), (alt2, .inl (cI, 5, .inl lt2)), (abd2, .inl (cI, 5, .inl bd2)), (aeg2, .inl (cI, 5, .inl eg2)), (abr2, .inl (cI, 5, .inl br2)), (ask2, .inl (cI, 8, .inl sk2)), (ash2, .inl (cI, 8, .inl sh2)), (ast2, .inl (cZ, 8, .inl st2))] sz)) (va_A [(bk, .inr (0, [.ref alt, .ref abd, .ref aeg, .ref abr, .ref ask, .ref ash, .ref ast, .int (nI sn), .int yr])), (alt, .inl (cI, 5, .inl lt)), (abd, .inl (cI, 5, .inl bd)), (aeg, .inl (cI, 5, .inl eg)), (abr, .inl (cI, 5, .inl br)), (ask, .inl (cI, 8, .inl sk)), (ash, .inl (cI, 8, .inl sh)), (ast, .inl (cZ, 8, .inl st)), (b2, .inr (0, [.ref alt2, .ref abd2, .ref aeg2, .ref abr2, .ref ask2, .ref ash2, .ref ast2, .int (nI sn2), .int yr2])), (alt2, .inl (cI, 5, .inl lt2)), (abd2, .inl (cI, 5, .inl bd2)), (aeg2, .inl (cI, 5, .inl eg2)), (abr2, .inl (cI, 5, .inl br2)), (ask2, .inl (cI, 8, .inl sk2)), (ash2, .inl (cI, 8, .inl sh2)), (ast2, .inl (cZ, 8, .inl st2))] sz)) 0 0 (va_A [(bk, .inr (0, [.ref alt, .ref abd, .ref aeg, .ref abr, .ref ask, .ref ash, .ref ast, .int (nI sn), .int yr])), (alt, .inl (cI, 5, .inl lt)), (abd, .inl (cI, 5, .inl bd)), (aeg, .inl (cI, 5, .inl eg)), (abr, .inl (cI, 5, .inl br)), (ask, .inl (cI, 8, .inl sk)), (ash, .inl (cI, 8, .inl sh)), (ast, .inl (cZ, 8, .inl st)), (b2, .inr (0, [.ref alt2, .ref abd2, .ref aeg2, .ref abr2, .ref ask2, .ref ash2, .ref ast2, .int (nI sn2), .int yr2])), (alt2, .inl (cI, 5, .inl lt2)), (abd2, .inl (cI, 5, .inl bd2)), (aeg2, .inl (cI, 5, .inl eg2)), (abr2, .inl (cI, 5, .inl br2)), (ask2, .inl (cI, 8, .inl sk2)), (ash2, .inl (cI, 8, .inl sh2)), (ast2, .inl (cZ, 8, .inl st2))] sz) := by
  refine Met.ofW (cc := cX0_copyFrom) (maxL := 3) (ret := none) (by decide) rfl ?_
  intro p e s m args below meth c s₁ B hml hv
  obtain ⟨rfl, hsz, hP, hD0, hE⟩ := hv
  have hx := B.exec
  have hb := B.bytes
  have hr := B.returns
  have hts := atoms_spec (ws := wsX0_copyFrom) B.pre
  have hown : s.vm.findClass RX0 = some m.cls := findClass_of_methodNamed B.named
  have hlocks := B.notSynchronized
  subst hsz
  have hD := hD0.self (sz := s.heap.size)
  generalize hAe : va_A [(bk, .inr (0, [.ref alt, .ref abd, .ref aeg, .ref abr, .ref ask, .ref ash, .ref ast, .int (nI sn), .int yr])), (alt, .inl (cI, 5, .inl lt)), (abd, .inl (cI, 5, .inl bd)), (aeg, .inl (cI, 5, .inl eg)), (abr, .inl (cI, 5, .inl br)), (ask, .inl (cI, 8, .inl sk)), (ash, .inl (cI, 8, .inl sh)), (ast, .inl (cZ, 8, .inl st)), (b2, .inr (0, [.ref alt2, .ref abd2, .ref aeg2, .ref abr2, .ref ask2, .ref ash2, .ref ast2, .int (nI sn2), .int yr2])), (alt2, .inl (cI, 5, .inl lt2)), (abd2, .inl (cI, 5, .inl bd2)), (aeg2, .inl (cI, 5, .inl eg2)), (abr2, .inl (cI, 5, .inl br2)), (ask2, .inl (cI, 8, .inl sk2)), (ash2, .inl (cI, 8, .inl sh2)), (ast2, .inl (cZ, 8, .inl st2))] s.heap.size = A at hD ⊢
  have hA : ∀ q : Nat, s.heap.size ≤ q → A q := fun q h => by rw [← hAe]; exact Or.inr h
  have hS : va_S A s.heap s.heap [] := va_S.rf
  have hP : va_P D vwCl [(bk, .inr (0, [.ref alt, .ref abd, .ref aeg, .ref abr, .ref ask, .ref ash, .ref ast, .int (nI sn), .int yr])), (alt, .inl (cI, 5, .inl lt)), (abd, .inl (cI, 5, .inl bd)), (aeg, .inl (cI, 5, .inl eg)), (abr, .inl (cI, 5, .inl br)), (ask, .inl (cI, 8, .inl sk)), (ash, .inl (cI, 8, .inl sh)), (ast, .inl (cZ, 8, .inl st)), (b2, .inr (0, [.ref alt2, .ref abd2, .ref aeg2, .ref abr2, .ref ask2, .ref ash2, .ref ast2, .int (nI sn2), .int yr2])), (alt2, .inl (cI, 5, .inl lt2)), (abd2, .inl (cI, 5, .inl bd2)), (aeg2, .inl (cI, 5, .inl eg2)), (abr2, .inl (cI, 5, .inl br2)), (ask2, .inl (cI, 8, .inl sk2)), (ash2, .inl (cI, 8, .inl sh2)), (ast2, .inl (cZ, 8, .inl st2))] s.heap := hP
  have hD : va_D A [(bk, .inr (0, [.ref alt, .ref abd, .ref aeg, .ref abr, .ref ask, .ref ash, .ref ast, .int (nI sn), .int yr])), (alt, .inl (cI, 5, .inl lt)), (abd, .inl (cI, 5, .inl bd)), (aeg, .inl (cI, 5, .inl eg)), (abr, .inl (cI, 5, .inl br)), (ask, .inl (cI, 8, .inl sk)), (ash, .inl (cI, 8, .inl sh)), (ast, .inl (cZ, 8, .inl st)), (b2, .inr (0, [.ref alt2, .ref abd2, .ref aeg2, .ref abr2, .ref ask2, .ref ash2, .ref ast2, .int (nI sn2), .int yr2])), (alt2, .inl (cI, 5, .inl lt2)), (abd2, .inl (cI, 5, .inl bd2)), (aeg2, .inl (cI, 5, .inl eg2)), (abr2, .inl (cI, 5, .inl br2)), (ask2, .inl (cI, 8, .inl sk2)), (ash2, .inl (cI, 8, .inl sh2)), (ast2, .inl (cZ, 8, .inl st2))] := hD
  have hl := lv_entry ([.ref bk, .ref b2]) (n := 3) (Nat.le_of_ble_eq_true rfl)
  rw [lg_entry_eq]
  generalize (lg_sl ([.ref bk, .ref b2]) ++ List.replicate (3 - (lg_sl ([.ref bk, .ref b2])).length) Slot.unset).toArray = ls at hl ⊢
  have hl : lv_has ls 3 [(0, .ref bk), (1, .ref b2)] := hl
  have hinX0 : ∀ w ∈ wsX00, w ∈ wsX0_copyFrom := fun w h => List.mem_cons_of_mem _ (List.mem_append_right _ h)
  have k_0 := hts (.fieldLink RX0 9 "VowDoves$Book" "letTo" "[I") (by decide +kernel)
  have k_1 := hts (.methodLink RX0 51 arraycopyName) (by decide +kernel)
  have k_2 := hts (.native arraycopyName) (by decide +kernel)
  have k_3 := hts (.static arraycopyName) (by decide +kernel)
  have k_4 := hts (.initialized "java/lang/System") (by decide +kernel)
  have k_5 := hts (.fieldLink RX0 15 "VowDoves$Book" "birds" "[I") (by decide +kernel)
  have k_6 := hts (.fieldLink RX0 18 "VowDoves$Book" "eggs" "[I") (by decide +kernel)
  have k_7 := hts (.fieldLink RX0 21 "VowDoves$Book" "broken" "[I") (by decide +kernel)
  have k_8 := hts (.fieldLink RX0 24 "VowDoves$Book" "seenKeepers" "[I") (by decide +kernel)
  have k_9 := hts (.fieldLink RX0 27 "VowDoves$Book" "seenHards" "[I") (by decide +kernel)
  have k_10 := hts (.fieldLink RX0 44 "VowDoves$Book" "seen" "I") (by decide +kernel)
  have k_11 := hts (.fieldLink RX0 48 "VowDoves$Book" "years" "I") (by decide +kernel)
  have k_12 := hts (.fieldLink RX0 30 "VowDoves$Book" "seenKept" "[Z") (by decide +kernel)
  refine lv_aload_n hx hb dX0_copyFrom_0 rfl (lv_at hl 1 rfl) ?_
  refine va_get (D := D) (ci := 0) (v := .ref alt2) (C := RX0) (T := TX0) (N := 9) hx hb hts hinX0 hown hE.1 hP 8 rfl rfl 0 (by decide) k_0 (fun _ h9 => h9) rfl dX0_copyFrom_1 ?_
  refine lv_iconst (v := 0) hx hb dX0_copyFrom_4 (by decide) ?_
  refine lv_aload_n hx hb dX0_copyFrom_5 rfl (lv_at hl 0 rfl) ?_
  refine va_get (D := D) (ci := 0) (v := .ref alt) (C := RX0) (T := TX0) (N := 9) hx hb hts hinX0 hown hE.1 hP 0 rfl rfl 0 (by decide) k_0 (fun _ h9 => h9) rfl dX0_copyFrom_6 ?_
  refine lv_iconst (v := 0) hx hb dX0_copyFrom_9 (by decide) ?_
  refine lv_iconst (v := 5) hx hb dX0_copyFrom_10 (by decide) ?_
  refine va_copyi (rest := []) hx hb (by rw [hml]; exact hl.1.symm) hown k_1 k_2 k_3 k_4 hE.1 hP hD hS 9 1 0 0 rfl rfl rfl rfl (ty := .int) rfl (by decide) (by decide) (by decide) (by decide) (by decide) (fun _ _ => rfl) (Nat.le_of_ble_eq_true rfl) (by decide) dX0_copyFrom_11 (fun H locs hP hD hS => ?_)
  have hP : va_P D vwCl [(bk, .inr (0, [.ref alt, .ref abd, .ref aeg, .ref abr, .ref ask, .ref ash, .ref ast, .int (nI sn), .int yr])), (alt, .inl (cI, 5, .inl (va_cpy lt2 lt 0 0 5))), (abd, .inl (cI, 5, .inl bd)), (aeg, .inl (cI, 5, .inl eg)), (abr, .inl (cI, 5, .inl br)), (ask, .inl (cI, 8, .inl sk)), (ash, .inl (cI, 8, .inl sh)), (ast, .inl (cZ, 8, .inl st)), (b2, .inr (0, [.ref alt2, .ref abd2, .ref aeg2, .ref abr2, .ref ask2, .ref ash2, .ref ast2, .int (nI sn2), .int yr2])), (alt2, .inl (cI, 5, .inl lt2)), (abd2, .inl (cI, 5, .inl bd2)), (aeg2, .inl (cI, 5, .inl eg2)), (abr2, .inl (cI, 5, .inl br2)), (ask2, .inl (cI, 8, .inl sk2)), (ash2, .inl (cI, 8, .inl sh2)), (ast2, .inl (cZ, 8, .inl st2))] H := hP
  have hD : va_D A [(bk, .inr (0, [.ref alt, .ref abd, .ref aeg, .ref abr, .ref ask, .ref ash, .ref ast, .int (nI sn), .int yr])), (alt, .inl (cI, 5, .inl (va_cpy lt2 lt 0 0 5))), (abd, .inl (cI, 5, .inl bd)), (aeg, .inl (cI, 5, .inl eg)), (abr, .inl (cI, 5, .inl br)), (ask, .inl (cI, 8, .inl sk)), (ash, .inl (cI, 8, .inl sh)), (ast, .inl (cZ, 8, .inl st)), (b2, .inr (0, [.ref alt2, .ref abd2, .ref aeg2, .ref abr2, .ref ask2, .ref ash2, .ref ast2, .int (nI sn2), .int yr2])), (alt2, .inl (cI, 5, .inl lt2)), (abd2, .inl (cI, 5, .inl bd2)), (aeg2, .inl (cI, 5, .inl eg2)), (abr2, .inl (cI, 5, .inl br2)), (ask2, .inl (cI, 8, .inl sk2)), (ash2, .inl (cI, 8, .inl sh2)), (ast2, .inl (cZ, 8, .inl st2))] := hD
  have hP := z_Pext hP 1 rfl (g := lt2) (fun j hj => zcpy hj)
  have hD := hD.set (p := 1) (e := .inl (cI, 5, .inl lt2)) rfl
  have hP : va_P D vwCl [(bk, .inr (0, [.ref alt, .ref abd, .ref aeg, .ref abr, .ref ask, .ref ash, .ref ast, .int (nI sn), .int yr])), (alt, .inl (cI, 5, .inl lt2)), (abd, .inl (cI, 5, .inl bd)), (aeg, .inl (cI, 5, .inl eg)), (abr, .inl (cI, 5, .inl br)), (ask, .inl (cI, 8, .inl sk)), (ash, .inl (cI, 8, .inl sh)), (ast, .inl (cZ, 8, .inl st)), (b2, .inr (0, [.ref alt2, .ref abd2, .ref aeg2, .ref abr2, .ref ask2, .ref ash2, .ref ast2, .int (nI sn2), .int yr2])), (alt2, .inl (cI, 5, .inl lt2)), (abd2, .inl (cI, 5, .inl bd2)), (aeg2, .inl (cI, 5, .inl eg2)), (abr2, .inl (cI, 5, .inl br2)), (ask2, .inl (cI, 8, .inl sk2)), (ash2, .inl (cI, 8, .inl sh2)), (ast2, .inl (cZ, 8, .inl st2))] _ := hP
  have hD : va_D A [(bk, .inr (0, [.ref alt, .ref abd, .ref aeg, .ref abr, .ref ask, .ref ash, .ref ast, .int (nI sn), .int yr])), (alt, .inl (cI, 5, .inl lt2)), (abd, .inl (cI, 5, .inl bd)), (aeg, .inl (cI, 5, .inl eg)), (abr, .inl (cI, 5, .inl br)), (ask, .inl (cI, 8, .inl sk)), (ash, .inl (cI, 8, .inl sh)), (ast, .inl (cZ, 8, .inl st)), (b2, .inr (0, [.ref alt2, .ref abd2, .ref aeg2, .ref abr2, .ref ask2, .ref ash2, .ref ast2, .int (nI sn2), .int yr2])), (alt2, .inl (cI, 5, .inl lt2)), (abd2, .inl (cI, 5, .inl bd2)), (aeg2, .inl (cI, 5, .inl eg2)), (abr2, .inl (cI, 5, .inl br2)), (ask2, .inl (cI, 8, .inl sk2)), (ash2, .inl (cI, 8, .inl sh2)), (ast2, .inl (cZ, 8, .inl st2))] := hD
  refine lv_aload_n hx hb dX0_copyFrom_14 rfl (lv_at hl 1 rfl) ?_
  refine va_get (D := D) (ci := 0) (v := .ref abd2) (C := RX0) (T := TX0) (N := 9) hx hb hts hinX0 hown hE.1 hP 8 rfl rfl 1 (by decide) k_5 (fun _ h9 => h9) rfl dX0_copyFrom_15 ?_
  refine lv_iconst (v := 0) hx hb dX0_copyFrom_18 (by decide) ?_
  refine lv_aload_n hx hb dX0_copyFrom_19 rfl (lv_at hl 0 rfl) ?_
  refine va_get (D := D) (ci := 0) (v := .ref abd) (C := RX0) (T := TX0) (N := 9) hx hb hts hinX0 hown hE.1 hP 0 rfl rfl 1 (by decide) k_5 (fun _ h9 => h9) rfl dX0_copyFrom_20 ?_
  refine lv_iconst (v := 0) hx hb dX0_copyFrom_23 (by decide) ?_
  refine lv_iconst (v := 5) hx hb dX0_copyFrom_24 (by decide) ?_
  refine va_copyi (rest := []) hx hb (by rw [hml]; exact hl.1.symm) hown k_1 k_2 k_3 k_4 hE.1 hP hD hS 10 2 0 0 rfl rfl rfl rfl (ty := .int) rfl (by decide) (by decide) (by decide) (by decide) (by decide) (fun _ _ => rfl) (Nat.le_of_ble_eq_true rfl) (by decide) dX0_copyFrom_25 (fun H locs hP hD hS => ?_)
  have hP : va_P D vwCl [(bk, .inr (0, [.ref alt, .ref abd, .ref aeg, .ref abr, .ref ask, .ref ash, .ref ast, .int (nI sn), .int yr])), (alt, .inl (cI, 5, .inl lt2)), (abd, .inl (cI, 5, .inl (va_cpy bd2 bd 0 0 5))), (aeg, .inl (cI, 5, .inl eg)), (abr, .inl (cI, 5, .inl br)), (ask, .inl (cI, 8, .inl sk)), (ash, .inl (cI, 8, .inl sh)), (ast, .inl (cZ, 8, .inl st)), (b2, .inr (0, [.ref alt2, .ref abd2, .ref aeg2, .ref abr2, .ref ask2, .ref ash2, .ref ast2, .int (nI sn2), .int yr2])), (alt2, .inl (cI, 5, .inl lt2)), (abd2, .inl (cI, 5, .inl bd2)), (aeg2, .inl (cI, 5, .inl eg2)), (abr2, .inl (cI, 5, .inl br2)), (ask2, .inl (cI, 8, .inl sk2)), (ash2, .inl (cI, 8, .inl sh2)), (ast2, .inl (cZ, 8, .inl st2))] H := hP
  have hD : va_D A [(bk, .inr (0, [.ref alt, .ref abd, .ref aeg, .ref abr, .ref ask, .ref ash, .ref ast, .int (nI sn), .int yr])), (alt, .inl (cI, 5, .inl lt2)), (abd, .inl (cI, 5, .inl (va_cpy bd2 bd 0 0 5))), (aeg, .inl (cI, 5, .inl eg)), (abr, .inl (cI, 5, .inl br)), (ask, .inl (cI, 8, .inl sk)), (ash, .inl (cI, 8, .inl sh)), (ast, .inl (cZ, 8, .inl st)), (b2, .inr (0, [.ref alt2, .ref abd2, .ref aeg2, .ref abr2, .ref ask2, .ref ash2, .ref ast2, .int (nI sn2), .int yr2])), (alt2, .inl (cI, 5, .inl lt2)), (abd2, .inl (cI, 5, .inl bd2)), (aeg2, .inl (cI, 5, .inl eg2)), (abr2, .inl (cI, 5, .inl br2)), (ask2, .inl (cI, 8, .inl sk2)), (ash2, .inl (cI, 8, .inl sh2)), (ast2, .inl (cZ, 8, .inl st2))] := hD
  have hP := z_Pext hP 2 rfl (g := bd2) (fun j hj => zcpy hj)
  have hD := hD.set (p := 2) (e := .inl (cI, 5, .inl bd2)) rfl
  have hP : va_P D vwCl [(bk, .inr (0, [.ref alt, .ref abd, .ref aeg, .ref abr, .ref ask, .ref ash, .ref ast, .int (nI sn), .int yr])), (alt, .inl (cI, 5, .inl lt2)), (abd, .inl (cI, 5, .inl bd2)), (aeg, .inl (cI, 5, .inl eg)), (abr, .inl (cI, 5, .inl br)), (ask, .inl (cI, 8, .inl sk)), (ash, .inl (cI, 8, .inl sh)), (ast, .inl (cZ, 8, .inl st)), (b2, .inr (0, [.ref alt2, .ref abd2, .ref aeg2, .ref abr2, .ref ask2, .ref ash2, .ref ast2, .int (nI sn2), .int yr2])), (alt2, .inl (cI, 5, .inl lt2)), (abd2, .inl (cI, 5, .inl bd2)), (aeg2, .inl (cI, 5, .inl eg2)), (abr2, .inl (cI, 5, .inl br2)), (ask2, .inl (cI, 8, .inl sk2)), (ash2, .inl (cI, 8, .inl sh2)), (ast2, .inl (cZ, 8, .inl st2))] _ := hP
  have hD : va_D A [(bk, .inr (0, [.ref alt, .ref abd, .ref aeg, .ref abr, .ref ask, .ref ash, .ref ast, .int (nI sn), .int yr])), (alt, .inl (cI, 5, .inl lt2)), (abd, .inl (cI, 5, .inl bd2)), (aeg, .inl (cI, 5, .inl eg)), (abr, .inl (cI, 5, .inl br)), (ask, .inl (cI, 8, .inl sk)), (ash, .inl (cI, 8, .inl sh)), (ast, .inl (cZ, 8, .inl st)), (b2, .inr (0, [.ref alt2, .ref abd2, .ref aeg2, .ref abr2, .ref ask2, .ref ash2, .ref ast2, .int (nI sn2), .int yr2])), (alt2, .inl (cI, 5, .inl lt2)), (abd2, .inl (cI, 5, .inl bd2)), (aeg2, .inl (cI, 5, .inl eg2)), (abr2, .inl (cI, 5, .inl br2)), (ask2, .inl (cI, 8, .inl sk2)), (ash2, .inl (cI, 8, .inl sh2)), (ast2, .inl (cZ, 8, .inl st2))] := hD
  refine lv_aload_n hx hb dX0_copyFrom_28 rfl (lv_at hl 1 rfl) ?_
  refine va_get (D := D) (ci := 0) (v := .ref aeg2) (C := RX0) (T := TX0) (N := 9) hx hb hts hinX0 hown hE.1 hP 8 rfl rfl 2 (by decide) k_6 (fun _ h9 => h9) rfl dX0_copyFrom_29 ?_
  refine lv_iconst (v := 0) hx hb dX0_copyFrom_32 (by decide) ?_
  refine lv_aload_n hx hb dX0_copyFrom_33 rfl (lv_at hl 0 rfl) ?_
  refine va_get (D := D) (ci := 0) (v := .ref aeg) (C := RX0) (T := TX0) (N := 9) hx hb hts hinX0 hown hE.1 hP 0 rfl rfl 2 (by decide) k_6 (fun _ h9 => h9) rfl dX0_copyFrom_34 ?_
  refine lv_iconst (v := 0) hx hb dX0_copyFrom_37 (by decide) ?_
  refine lv_iconst (v := 5) hx hb dX0_copyFrom_38 (by decide) ?_
  refine va_copyi (rest := []) hx hb (by rw [hml]; exact hl.1.symm) hown k_1 k_2 k_3 k_4 hE.1 hP hD hS 11 3 0 0 rfl rfl rfl rfl (ty := .int) rfl (by decide) (by decide) (by decide) (by decide) (by decide) (fun _ _ => rfl) (Nat.le_of_ble_eq_true rfl) (by decide) dX0_copyFrom_39 (fun H locs hP hD hS => ?_)
  have hP : va_P D vwCl [(bk, .inr (0, [.ref alt, .ref abd, .ref aeg, .ref abr, .ref ask, .ref ash, .ref ast, .int (nI sn), .int yr])), (alt, .inl (cI, 5, .inl lt2)), (abd, .inl (cI, 5, .inl bd2)), (aeg, .inl (cI, 5, .inl (va_cpy eg2 eg 0 0 5))), (abr, .inl (cI, 5, .inl br)), (ask, .inl (cI, 8, .inl sk)), (ash, .inl (cI, 8, .inl sh)), (ast, .inl (cZ, 8, .inl st)), (b2, .inr (0, [.ref alt2, .ref abd2, .ref aeg2, .ref abr2, .ref ask2, .ref ash2, .ref ast2, .int (nI sn2), .int yr2])), (alt2, .inl (cI, 5, .inl lt2)), (abd2, .inl (cI, 5, .inl bd2)), (aeg2, .inl (cI, 5, .inl eg2)), (abr2, .inl (cI, 5, .inl br2)), (ask2, .inl (cI, 8, .inl sk2)), (ash2, .inl (cI, 8, .inl sh2)), (ast2, .inl (cZ, 8, .inl st2))] H := hP
  have hD : va_D A [(bk, .inr (0, [.ref alt, .ref abd, .ref aeg, .ref abr, .ref ask, .ref ash, .ref ast, .int (nI sn), .int yr])), (alt, .inl (cI, 5, .inl lt2)), (abd, .inl (cI, 5, .inl bd2)), (aeg, .inl (cI, 5, .inl (va_cpy eg2 eg 0 0 5))), (abr, .inl (cI, 5, .inl br)), (ask, .inl (cI, 8, .inl sk)), (ash, .inl (cI, 8, .inl sh)), (ast, .inl (cZ, 8, .inl st)), (b2, .inr (0, [.ref alt2, .ref abd2, .ref aeg2, .ref abr2, .ref ask2, .ref ash2, .ref ast2, .int (nI sn2), .int yr2])), (alt2, .inl (cI, 5, .inl lt2)), (abd2, .inl (cI, 5, .inl bd2)), (aeg2, .inl (cI, 5, .inl eg2)), (abr2, .inl (cI, 5, .inl br2)), (ask2, .inl (cI, 8, .inl sk2)), (ash2, .inl (cI, 8, .inl sh2)), (ast2, .inl (cZ, 8, .inl st2))] := hD
  have hP := z_Pext hP 3 rfl (g := eg2) (fun j hj => zcpy hj)
  have hD := hD.set (p := 3) (e := .inl (cI, 5, .inl eg2)) rfl
  have hP : va_P D vwCl [(bk, .inr (0, [.ref alt, .ref abd, .ref aeg, .ref abr, .ref ask, .ref ash, .ref ast, .int (nI sn), .int yr])), (alt, .inl (cI, 5, .inl lt2)), (abd, .inl (cI, 5, .inl bd2)), (aeg, .inl (cI, 5, .inl eg2)), (abr, .inl (cI, 5, .inl br)), (ask, .inl (cI, 8, .inl sk)), (ash, .inl (cI, 8, .inl sh)), (ast, .inl (cZ, 8, .inl st)), (b2, .inr (0, [.ref alt2, .ref abd2, .ref aeg2, .ref abr2, .ref ask2, .ref ash2, .ref ast2, .int (nI sn2), .int yr2])), (alt2, .inl (cI, 5, .inl lt2)), (abd2, .inl (cI, 5, .inl bd2)), (aeg2, .inl (cI, 5, .inl eg2)), (abr2, .inl (cI, 5, .inl br2)), (ask2, .inl (cI, 8, .inl sk2)), (ash2, .inl (cI, 8, .inl sh2)), (ast2, .inl (cZ, 8, .inl st2))] _ := hP
  have hD : va_D A [(bk, .inr (0, [.ref alt, .ref abd, .ref aeg, .ref abr, .ref ask, .ref ash, .ref ast, .int (nI sn), .int yr])), (alt, .inl (cI, 5, .inl lt2)), (abd, .inl (cI, 5, .inl bd2)), (aeg, .inl (cI, 5, .inl eg2)), (abr, .inl (cI, 5, .inl br)), (ask, .inl (cI, 8, .inl sk)), (ash, .inl (cI, 8, .inl sh)), (ast, .inl (cZ, 8, .inl st)), (b2, .inr (0, [.ref alt2, .ref abd2, .ref aeg2, .ref abr2, .ref ask2, .ref ash2, .ref ast2, .int (nI sn2), .int yr2])), (alt2, .inl (cI, 5, .inl lt2)), (abd2, .inl (cI, 5, .inl bd2)), (aeg2, .inl (cI, 5, .inl eg2)), (abr2, .inl (cI, 5, .inl br2)), (ask2, .inl (cI, 8, .inl sk2)), (ash2, .inl (cI, 8, .inl sh2)), (ast2, .inl (cZ, 8, .inl st2))] := hD
  refine lv_aload_n hx hb dX0_copyFrom_42 rfl (lv_at hl 1 rfl) ?_
  refine va_get (D := D) (ci := 0) (v := .ref abr2) (C := RX0) (T := TX0) (N := 9) hx hb hts hinX0 hown hE.1 hP 8 rfl rfl 3 (by decide) k_7 (fun _ h9 => h9) rfl dX0_copyFrom_43 ?_
  refine lv_iconst (v := 0) hx hb dX0_copyFrom_46 (by decide) ?_
  refine lv_aload_n hx hb dX0_copyFrom_47 rfl (lv_at hl 0 rfl) ?_
  refine va_get (D := D) (ci := 0) (v := .ref abr) (C := RX0) (T := TX0) (N := 9) hx hb hts hinX0 hown hE.1 hP 0 rfl rfl 3 (by decide) k_7 (fun _ h9 => h9) rfl dX0_copyFrom_48 ?_
  refine lv_iconst (v := 0) hx hb dX0_copyFrom_51 (by decide) ?_
  refine lv_iconst (v := 5) hx hb dX0_copyFrom_52 (by decide) ?_
  refine va_copyi (rest := []) hx hb (by rw [hml]; exact hl.1.symm) hown k_1 k_2 k_3 k_4 hE.1 hP hD hS 12 4 0 0 rfl rfl rfl rfl (ty := .int) rfl (by decide) (by decide) (by decide) (by decide) (by decide) (fun _ _ => rfl) (Nat.le_of_ble_eq_true rfl) (by decide) dX0_copyFrom_53 (fun H locs hP hD hS => ?_)
  have hP : va_P D vwCl [(bk, .inr (0, [.ref alt, .ref abd, .ref aeg, .ref abr, .ref ask, .ref ash, .ref ast, .int (nI sn), .int yr])), (alt, .inl (cI, 5, .inl lt2)), (abd, .inl (cI, 5, .inl bd2)), (aeg, .inl (cI, 5, .inl eg2)), (abr, .inl (cI, 5, .inl (va_cpy br2 br 0 0 5))), (ask, .inl (cI, 8, .inl sk)), (ash, .inl (cI, 8, .inl sh)), (ast, .inl (cZ, 8, .inl st)), (b2, .inr (0, [.ref alt2, .ref abd2, .ref aeg2, .ref abr2, .ref ask2, .ref ash2, .ref ast2, .int (nI sn2), .int yr2])), (alt2, .inl (cI, 5, .inl lt2)), (abd2, .inl (cI, 5, .inl bd2)), (aeg2, .inl (cI, 5, .inl eg2)), (abr2, .inl (cI, 5, .inl br2)), (ask2, .inl (cI, 8, .inl sk2)), (ash2, .inl (cI, 8, .inl sh2)), (ast2, .inl (cZ, 8, .inl st2))] H := hP
  have hD : va_D A [(bk, .inr (0, [.ref alt, .ref abd, .ref aeg, .ref abr, .ref ask, .ref ash, .ref ast, .int (nI sn), .int yr])), (alt, .inl (cI, 5, .inl lt2)), (abd, .inl (cI, 5, .inl bd2)), (aeg, .inl (cI, 5, .inl eg2)), (abr, .inl (cI, 5, .inl (va_cpy br2 br 0 0 5))), (ask, .inl (cI, 8, .inl sk)), (ash, .inl (cI, 8, .inl sh)), (ast, .inl (cZ, 8, .inl st)), (b2, .inr (0, [.ref alt2, .ref abd2, .ref aeg2, .ref abr2, .ref ask2, .ref ash2, .ref ast2, .int (nI sn2), .int yr2])), (alt2, .inl (cI, 5, .inl lt2)), (abd2, .inl (cI, 5, .inl bd2)), (aeg2, .inl (cI, 5, .inl eg2)), (abr2, .inl (cI, 5, .inl br2)), (ask2, .inl (cI, 8, .inl sk2)), (ash2, .inl (cI, 8, .inl sh2)), (ast2, .inl (cZ, 8, .inl st2))] := hD
  have hP := z_Pext hP 4 rfl (g := br2) (fun j hj => zcpy hj)
  have hD := hD.set (p := 4) (e := .inl (cI, 5, .inl br2)) rfl
  have hP : va_P D vwCl [(bk, .inr (0, [.ref alt, .ref abd, .ref aeg, .ref abr, .ref ask, .ref ash, .ref ast, .int (nI sn), .int yr])), (alt, .inl (cI, 5, .inl lt2)), (abd, .inl (cI, 5, .inl bd2)), (aeg, .inl (cI, 5, .inl eg2)), (abr, .inl (cI, 5, .inl br2)), (ask, .inl (cI, 8, .inl sk)), (ash, .inl (cI, 8, .inl sh)), (ast, .inl (cZ, 8, .inl st)), (b2, .inr (0, [.ref alt2, .ref abd2, .ref aeg2, .ref abr2, .ref ask2, .ref ash2, .ref ast2, .int (nI sn2), .int yr2])), (alt2, .inl (cI, 5, .inl lt2)), (abd2, .inl (cI, 5, .inl bd2)), (aeg2, .inl (cI, 5, .inl eg2)), (abr2, .inl (cI, 5, .inl br2)), (ask2, .inl (cI, 8, .inl sk2)), (ash2, .inl (cI, 8, .inl sh2)), (ast2, .inl (cZ, 8, .inl st2))] _ := hP
  have hD : va_D A [(bk, .inr (0, [.ref alt, .ref abd, .ref aeg, .ref abr, .ref ask, .ref ash, .ref ast, .int (nI sn), .int yr])), (alt, .inl (cI, 5, .inl lt2)), (abd, .inl (cI, 5, .inl bd2)), (aeg, .inl (cI, 5, .inl eg2)), (abr, .inl (cI, 5, .inl br2)), (ask, .inl (cI, 8, .inl sk)), (ash, .inl (cI, 8, .inl sh)), (ast, .inl (cZ, 8, .inl st)), (b2, .inr (0, [.ref alt2, .ref abd2, .ref aeg2, .ref abr2, .ref ask2, .ref ash2, .ref ast2, .int (nI sn2), .int yr2])), (alt2, .inl (cI, 5, .inl lt2)), (abd2, .inl (cI, 5, .inl bd2)), (aeg2, .inl (cI, 5, .inl eg2)), (abr2, .inl (cI, 5, .inl br2)), (ask2, .inl (cI, 8, .inl sk2)), (ash2, .inl (cI, 8, .inl sh2)), (ast2, .inl (cZ, 8, .inl st2))] := hD
  refine lv_aload_n hx hb dX0_copyFrom_56 rfl (lv_at hl 1 rfl) ?_
  refine va_get (D := D) (ci := 0) (v := .ref ask2) (C := RX0) (T := TX0) (N := 9) hx hb hts hinX0 hown hE.1 hP 8 rfl rfl 4 (by decide) k_8 (fun _ h9 => h9) rfl dX0_copyFrom_57 ?_
  refine lv_iconst (v := 0) hx hb dX0_copyFrom_60 (by decide) ?_
  refine lv_aload_n hx hb dX0_copyFrom_61 rfl (lv_at hl 0 rfl) ?_
  refine va_get (D := D) (ci := 0) (v := .ref ask) (C := RX0) (T := TX0) (N := 9) hx hb hts hinX0 hown hE.1 hP 0 rfl rfl 4 (by decide) k_8 (fun _ h9 => h9) rfl dX0_copyFrom_62 ?_
  refine lv_iconst (v := 0) hx hb dX0_copyFrom_65 (by decide) ?_
  refine lv_bipush (v := 8) hx hb dX0_copyFrom_66 (by decide) ?_
  refine va_copyi (rest := []) hx hb (by rw [hml]; exact hl.1.symm) hown k_1 k_2 k_3 k_4 hE.1 hP hD hS 13 5 0 0 rfl rfl rfl rfl (ty := .int) rfl (by decide) (by decide) (by decide) (by decide) (by decide) (fun _ _ => rfl) (Nat.le_of_ble_eq_true rfl) (by decide) dX0_copyFrom_68 (fun H locs hP hD hS => ?_)
  have hP : va_P D vwCl [(bk, .inr (0, [.ref alt, .ref abd, .ref aeg, .ref abr, .ref ask, .ref ash, .ref ast, .int (nI sn), .int yr])), (alt, .inl (cI, 5, .inl lt2)), (abd, .inl (cI, 5, .inl bd2)), (aeg, .inl (cI, 5, .inl eg2)), (abr, .inl (cI, 5, .inl br2)), (ask, .inl (cI, 8, .inl (va_cpy sk2 sk 0 0 8))), (ash, .inl (cI, 8, .inl sh)), (ast, .inl (cZ, 8, .inl st)), (b2, .inr (0, [.ref alt2, .ref abd2, .ref aeg2, .ref abr2, .ref ask2, .ref ash2, .ref ast2, .int (nI sn2), .int yr2])), (alt2, .inl (cI, 5, .inl lt2)), (abd2, .inl (cI, 5, .inl bd2)), (aeg2, .inl (cI, 5, .inl eg2)), (abr2, .inl (cI, 5, .inl br2)), (ask2, .inl (cI, 8, .inl sk2)), (ash2, .inl (cI, 8, .inl sh2)), (ast2, .inl (cZ, 8, .inl st2))] H := hP
  have hD : va_D A [(bk, .inr (0, [.ref alt, .ref abd, .ref aeg, .ref abr, .ref ask, .ref ash, .ref ast, .int (nI sn), .int yr])), (alt, .inl (cI, 5, .inl lt2)), (abd, .inl (cI, 5, .inl bd2)), (aeg, .inl (cI, 5, .inl eg2)), (abr, .inl (cI, 5, .inl br2)), (ask, .inl (cI, 8, .inl (va_cpy sk2 sk 0 0 8))), (ash, .inl (cI, 8, .inl sh)), (ast, .inl (cZ, 8, .inl st)), (b2, .inr (0, [.ref alt2, .ref abd2, .ref aeg2, .ref abr2, .ref ask2, .ref ash2, .ref ast2, .int (nI sn2), .int yr2])), (alt2, .inl (cI, 5, .inl lt2)), (abd2, .inl (cI, 5, .inl bd2)), (aeg2, .inl (cI, 5, .inl eg2)), (abr2, .inl (cI, 5, .inl br2)), (ask2, .inl (cI, 8, .inl sk2)), (ash2, .inl (cI, 8, .inl sh2)), (ast2, .inl (cZ, 8, .inl st2))] := hD
  have hP := z_Pext hP 5 rfl (g := sk2) (fun j hj => zcpy hj)
  have hD := hD.set (p := 5) (e := .inl (cI, 8, .inl sk2)) rfl
  have hP : va_P D vwCl [(bk, .inr (0, [.ref alt, .ref abd, .ref aeg, .ref abr, .ref ask, .ref ash, .ref ast, .int (nI sn), .int yr])), (alt, .inl (cI, 5, .inl lt2)), (abd, .inl (cI, 5, .inl bd2)), (aeg, .inl (cI, 5, .inl eg2)), (abr, .inl (cI, 5, .inl br2)), (ask, .inl (cI, 8, .inl sk2)), (ash, .inl (cI, 8, .inl sh)), (ast, .inl (cZ, 8, .inl st)), (b2, .inr (0, [.ref alt2, .ref abd2, .ref aeg2, .ref abr2, .ref ask2, .ref ash2, .ref ast2, .int (nI sn2), .int yr2])), (alt2, .inl (cI, 5, .inl lt2)), (abd2, .inl (cI, 5, .inl bd2)), (aeg2, .inl (cI, 5, .inl eg2)), (abr2, .inl (cI, 5, .inl br2)), (ask2, .inl (cI, 8, .inl sk2)), (ash2, .inl (cI, 8, .inl sh2)), (ast2, .inl (cZ, 8, .inl st2))] _ := hP
  have hD : va_D A [(bk, .inr (0, [.ref alt, .ref abd, .ref aeg, .ref abr, .ref ask, .ref ash, .ref ast, .int (nI sn), .int yr])), (alt, .inl (cI, 5, .inl lt2)), (abd, .inl (cI, 5, .inl bd2)), (aeg, .inl (cI, 5, .inl eg2)), (abr, .inl (cI, 5, .inl br2)), (ask, .inl (cI, 8, .inl sk2)), (ash, .inl (cI, 8, .inl sh)), (ast, .inl (cZ, 8, .inl st)), (b2, .inr (0, [.ref alt2, .ref abd2, .ref aeg2, .ref abr2, .ref ask2, .ref ash2, .ref ast2, .int (nI sn2), .int yr2])), (alt2, .inl (cI, 5, .inl lt2)), (abd2, .inl (cI, 5, .inl bd2)), (aeg2, .inl (cI, 5, .inl eg2)), (abr2, .inl (cI, 5, .inl br2)), (ask2, .inl (cI, 8, .inl sk2)), (ash2, .inl (cI, 8, .inl sh2)), (ast2, .inl (cZ, 8, .inl st2))] := hD
  refine lv_aload_n hx hb dX0_copyFrom_71 rfl (lv_at hl 1 rfl) ?_
  refine va_get (D := D) (ci := 0) (v := .ref ash2) (C := RX0) (T := TX0) (N := 9) hx hb hts hinX0 hown hE.1 hP 8 rfl rfl 5 (by decide) k_9 (fun _ h9 => h9) rfl dX0_copyFrom_72 ?_
  refine lv_iconst (v := 0) hx hb dX0_copyFrom_75 (by decide) ?_
  refine lv_aload_n hx hb dX0_copyFrom_76 rfl (lv_at hl 0 rfl) ?_
  refine va_get (D := D) (ci := 0) (v := .ref ash) (C := RX0) (T := TX0) (N := 9) hx hb hts hinX0 hown hE.1 hP 0 rfl rfl 5 (by decide) k_9 (fun _ h9 => h9) rfl dX0_copyFrom_77 ?_
  refine lv_iconst (v := 0) hx hb dX0_copyFrom_80 (by decide) ?_
  refine lv_bipush (v := 8) hx hb dX0_copyFrom_81 (by decide) ?_
  refine va_copyi (rest := []) hx hb (by rw [hml]; exact hl.1.symm) hown k_1 k_2 k_3 k_4 hE.1 hP hD hS 14 6 0 0 rfl rfl rfl rfl (ty := .int) rfl (by decide) (by decide) (by decide) (by decide) (by decide) (fun _ _ => rfl) (Nat.le_of_ble_eq_true rfl) (by decide) dX0_copyFrom_83 (fun H locs hP hD hS => ?_)
  have hP : va_P D vwCl [(bk, .inr (0, [.ref alt, .ref abd, .ref aeg, .ref abr, .ref ask, .ref ash, .ref ast, .int (nI sn), .int yr])), (alt, .inl (cI, 5, .inl lt2)), (abd, .inl (cI, 5, .inl bd2)), (aeg, .inl (cI, 5, .inl eg2)), (abr, .inl (cI, 5, .inl br2)), (ask, .inl (cI, 8, .inl sk2)), (ash, .inl (cI, 8, .inl (va_cpy sh2 sh 0 0 8))), (ast, .inl (cZ, 8, .inl st)), (b2, .inr (0, [.ref alt2, .ref abd2, .ref aeg2, .ref abr2, .ref ask2, .ref ash2, .ref ast2, .int (nI sn2), .int yr2])), (alt2, .inl (cI, 5, .inl lt2)), (abd2, .inl (cI, 5, .inl bd2)), (aeg2, .inl (cI, 5, .inl eg2)), (abr2, .inl (cI, 5, .inl br2)), (ask2, .inl (cI, 8, .inl sk2)), (ash2, .inl (cI, 8, .inl sh2)), (ast2, .inl (cZ, 8, .inl st2))] H := hP
  have hD : va_D A [(bk, .inr (0, [.ref alt, .ref abd, .ref aeg, .ref abr, .ref ask, .ref ash, .ref ast, .int (nI sn), .int yr])), (alt, .inl (cI, 5, .inl lt2)), (abd, .inl (cI, 5, .inl bd2)), (aeg, .inl (cI, 5, .inl eg2)), (abr, .inl (cI, 5, .inl br2)), (ask, .inl (cI, 8, .inl sk2)), (ash, .inl (cI, 8, .inl (va_cpy sh2 sh 0 0 8))), (ast, .inl (cZ, 8, .inl st)), (b2, .inr (0, [.ref alt2, .ref abd2, .ref aeg2, .ref abr2, .ref ask2, .ref ash2, .ref ast2, .int (nI sn2), .int yr2])), (alt2, .inl (cI, 5, .inl lt2)), (abd2, .inl (cI, 5, .inl bd2)), (aeg2, .inl (cI, 5, .inl eg2)), (abr2, .inl (cI, 5, .inl br2)), (ask2, .inl (cI, 8, .inl sk2)), (ash2, .inl (cI, 8, .inl sh2)), (ast2, .inl (cZ, 8, .inl st2))] := hD
  have hP := z_Pext hP 6 rfl (g := sh2) (fun j hj => zcpy hj)
  have hD := hD.set (p := 6) (e := .inl (cI, 8, .inl sh2)) rfl
  have hP : va_P D vwCl [(bk, .inr (0, [.ref alt, .ref abd, .ref aeg, .ref abr, .ref ask, .ref ash, .ref ast, .int (nI sn), .int yr])), (alt, .inl (cI, 5, .inl lt2)), (abd, .inl (cI, 5, .inl bd2)), (aeg, .inl (cI, 5, .inl eg2)), (abr, .inl (cI, 5, .inl br2)), (ask, .inl (cI, 8, .inl sk2)), (ash, .inl (cI, 8, .inl sh2)), (ast, .inl (cZ, 8, .inl st)), (b2, .inr (0, [.ref alt2, .ref abd2, .ref aeg2, .ref abr2, .ref ask2, .ref ash2, .ref ast2, .int (nI sn2), .int yr2])), (alt2, .inl (cI, 5, .inl lt2)), (abd2, .inl (cI, 5, .inl bd2)), (aeg2, .inl (cI, 5, .inl eg2)), (abr2, .inl (cI, 5, .inl br2)), (ask2, .inl (cI, 8, .inl sk2)), (ash2, .inl (cI, 8, .inl sh2)), (ast2, .inl (cZ, 8, .inl st2))] _ := hP
  have hD : va_D A [(bk, .inr (0, [.ref alt, .ref abd, .ref aeg, .ref abr, .ref ask, .ref ash, .ref ast, .int (nI sn), .int yr])), (alt, .inl (cI, 5, .inl lt2)), (abd, .inl (cI, 5, .inl bd2)), (aeg, .inl (cI, 5, .inl eg2)), (abr, .inl (cI, 5, .inl br2)), (ask, .inl (cI, 8, .inl sk2)), (ash, .inl (cI, 8, .inl sh2)), (ast, .inl (cZ, 8, .inl st)), (b2, .inr (0, [.ref alt2, .ref abd2, .ref aeg2, .ref abr2, .ref ask2, .ref ash2, .ref ast2, .int (nI sn2), .int yr2])), (alt2, .inl (cI, 5, .inl lt2)), (abd2, .inl (cI, 5, .inl bd2)), (aeg2, .inl (cI, 5, .inl eg2)), (abr2, .inl (cI, 5, .inl br2)), (ask2, .inl (cI, 8, .inl sk2)), (ash2, .inl (cI, 8, .inl sh2)), (ast2, .inl (cZ, 8, .inl st2))] := hD
  refine lv_iconst (v := 0) hx hb dX0_copyFrom_86 (by decide) ?_
  refine lv_istore_n (lv' := [(2, .int 0), (0, .ref bk), (1, .ref b2)]) hx hb dX0_copyFrom_87 rfl hl (by decide) rfl (fun ls hl => ?_)
  have hc88_1 : ∀ (n : Nat) (i : Nat), (i ≤ 8) → (8 + 1 ≤ i + n) → ∀ (w2 : Int32), w2 = nI i → ∀ (ws : Nat → Int32), ws = cyN st st2 i → ∀ (H : Heap) (locs : List Loc), va_P D vwCl [(bk, .inr (0, [.ref alt, .ref abd, .ref aeg, .ref abr, .ref ask, .ref ash, .ref ast, .int (nI sn), .int yr])), (alt, .inl (cI, 5, .inl lt2)), (abd, .inl (cI, 5, .inl bd2)), (aeg, .inl (cI, 5, .inl eg2)), (abr, .inl (cI, 5, .inl br2)), (ask, .inl (cI, 8, .inl sk2)), (ash, .inl (cI, 8, .inl sh2)), (ast, .inl (cZ, 8, .inl ws)), (b2, .inr (0, [.ref alt2, .ref abd2, .ref aeg2, .ref abr2, .ref ask2, .ref ash2, .ref ast2, .int (nI sn2), .int yr2])), (alt2, .inl (cI, 5, .inl lt2)), (abd2, .inl (cI, 5, .inl bd2)), (aeg2, .inl (cI, 5, .inl eg2)), (abr2, .inl (cI, 5, .inl br2)), (ask2, .inl (cI, 8, .inl sk2)), (ash2, .inl (cI, 8, .inl sh2)), (ast2, .inl (cZ, 8, .inl st2))] H → va_D A [(bk, .inr (0, [.ref alt, .ref abd, .ref aeg, .ref abr, .ref ask, .ref ash, .ref ast, .int (nI sn), .int yr])), (alt, .inl (cI, 5, .inl lt2)), (abd, .inl (cI, 5, .inl bd2)), (aeg, .inl (cI, 5, .inl eg2)), (abr, .inl (cI, 5, .inl br2)), (ask, .inl (cI, 8, .inl sk2)), (ash, .inl (cI, 8, .inl sh2)), (ast, .inl (cZ, 8, .inl ws)), (b2, .inr (0, [.ref alt2, .ref abd2, .ref aeg2, .ref abr2, .ref ask2, .ref ash2, .ref ast2, .int (nI sn2), .int yr2])), (alt2, .inl (cI, 5, .inl lt2)), (abd2, .inl (cI, 5, .inl bd2)), (aeg2, .inl (cI, 5, .inl eg2)), (abr2, .inl (cI, 5, .inl br2)), (ask2, .inl (cI, 8, .inl sk2)), (ash2, .inl (cI, 8, .inl sh2)), (ast2, .inl (cZ, 8, .inl st2))] → va_S A s.heap H locs → ∀ (ls : Array Slot), lv_has ls 3 [(2, .int w2), (0, .ref bk), (1, .ref b2)] → W p l e (headSpec wsX0_copyFrom (zr 1)).room s m ([.ref bk, .ref b2] : List Value).toArray below meth c H locs 0 0 (MQ below (va_Qv (fun (_ : Unit) => True) (zB D [(bk, .inr (0, [.ref alt, .ref abd, .ref aeg, .ref abr, .ref ask, .ref ash, .ref ast, .int (nI sn2), .int yr2])), (alt, .inl (cI, 5, .inl lt2)), (abd, .inl (cI, 5, .inl bd2)), (aeg, .inl (cI, 5, .inl eg2)), (abr, .inl (cI, 5, .inl br2)), (ask, .inl (cI, 8, .inl sk2)), (ash, .inl (cI, 8, .inl sh2)), (ast, .inl (cZ, 8, .inl st2)), (b2, .inr (0, [.ref alt2, .ref abd2, .ref aeg2, .ref abr2, .ref ask2, .ref ash2, .ref ast2, .int (nI sn2), .int yr2])), (alt2, .inl (cI, 5, .inl lt2)), (abd2, .inl (cI, 5, .inl bd2)), (aeg2, .inl (cI, 5, .inl eg2)), (abr2, .inl (cI, 5, .inl br2)), (ask2, .inl (cI, 8, .inl sk2)), (ash2, .inl (cI, 8, .inl sh2)), (ast2, .inl (cZ, 8, .inl st2))] A) A) ([.ref bk, .ref b2] : List Value).toArray s 0 0 A) (F0 m 88 ls []) := by
    intro n
    induction n with
    | zero => intro i hi hfu; exact absurd hfu (by omega)
    | succ n ihhc88_1 =>
      intro i hi hfu w2 ew2 ws ews H locs hP hD hS ls hl
      subst ew2
      subst ews
      refine lv_iload_n hx hb dX0_copyFrom_88 rfl (lv_at hl 0 rfl) ?_
      refine lv_bipush (v := 8) hx hb dX0_copyFrom_89 (by decide) ?_
      refine lv_icmp_ge (tgt := 112) hx hb dX0_copyFrom_91 (by decide) (fun c_91 => ?_) (fun c_91 => ?_)
      · have n_91 := zn_le (a := 8) (b := i) rfl rfl c_91 (by omega) (by omega)
        obtain rfl : 8 = i := by omega
        have hP := z_Pext hP 7 rfl (g := st2) (fun j hj => cyN_lt hj)
        have hD := hD.set (p := 7) (e := .inl (cZ, 8, .inl st2)) rfl
        have hP : va_P D vwCl [(bk, .inr (0, [.ref alt, .ref abd, .ref aeg, .ref abr, .ref ask, .ref ash, .ref ast, .int (nI sn), .int yr])), (alt, .inl (cI, 5, .inl lt2)), (abd, .inl (cI, 5, .inl bd2)), (aeg, .inl (cI, 5, .inl eg2)), (abr, .inl (cI, 5, .inl br2)), (ask, .inl (cI, 8, .inl sk2)), (ash, .inl (cI, 8, .inl sh2)), (ast, .inl (cZ, 8, .inl st2)), (b2, .inr (0, [.ref alt2, .ref abd2, .ref aeg2, .ref abr2, .ref ask2, .ref ash2, .ref ast2, .int (nI sn2), .int yr2])), (alt2, .inl (cI, 5, .inl lt2)), (abd2, .inl (cI, 5, .inl bd2)), (aeg2, .inl (cI, 5, .inl eg2)), (abr2, .inl (cI, 5, .inl br2)), (ask2, .inl (cI, 8, .inl sk2)), (ash2, .inl (cI, 8, .inl sh2)), (ast2, .inl (cZ, 8, .inl st2))] _ := hP
        have hD : va_D A [(bk, .inr (0, [.ref alt, .ref abd, .ref aeg, .ref abr, .ref ask, .ref ash, .ref ast, .int (nI sn), .int yr])), (alt, .inl (cI, 5, .inl lt2)), (abd, .inl (cI, 5, .inl bd2)), (aeg, .inl (cI, 5, .inl eg2)), (abr, .inl (cI, 5, .inl br2)), (ask, .inl (cI, 8, .inl sk2)), (ash, .inl (cI, 8, .inl sh2)), (ast, .inl (cZ, 8, .inl st2)), (b2, .inr (0, [.ref alt2, .ref abd2, .ref aeg2, .ref abr2, .ref ask2, .ref ash2, .ref ast2, .int (nI sn2), .int yr2])), (alt2, .inl (cI, 5, .inl lt2)), (abd2, .inl (cI, 5, .inl bd2)), (aeg2, .inl (cI, 5, .inl eg2)), (abr2, .inl (cI, 5, .inl br2)), (ask2, .inl (cI, 8, .inl sk2)), (ash2, .inl (cI, 8, .inl sh2)), (ast2, .inl (cZ, 8, .inl st2))] := hD
        refine lv_aload_n hx hb dX0_copyFrom_112 rfl (lv_at hl 1 rfl) ?_
        refine lv_aload_n hx hb dX0_copyFrom_113 rfl (lv_at hl 2 rfl) ?_
        refine va_get (D := D) (ci := 0) (v := .int (nI sn2)) (C := RX0) (T := TX0) (N := 9) hx hb hts hinX0 hown hE.1 hP 8 rfl rfl 7 (by decide) k_10 (fun _ h9 => h9) rfl dX0_copyFrom_114 ?_
        refine va_put (D := D) (ci := 0) (v := .int (nI sn2)) (ty := .int) (C := RX0) (T := TX0) (N := 9) hx hb hts hinX0 tyX0 tyX0_ok nmX0 hown hE.1 hP hD hS 0 rfl rfl 7 (by decide) k_10 (fun _ h9 => h9) rfl (by decide +kernel) rfl rfl (Nat.le_of_ble_eq_true rfl) dX0_copyFrom_117 (fun H locs hP hD hS => ?_)
        have hP : va_P D vwCl [(bk, .inr (0, [.ref alt, .ref abd, .ref aeg, .ref abr, .ref ask, .ref ash, .ref ast, .int (nI sn2), .int yr])), (alt, .inl (cI, 5, .inl lt2)), (abd, .inl (cI, 5, .inl bd2)), (aeg, .inl (cI, 5, .inl eg2)), (abr, .inl (cI, 5, .inl br2)), (ask, .inl (cI, 8, .inl sk2)), (ash, .inl (cI, 8, .inl sh2)), (ast, .inl (cZ, 8, .inl st2)), (b2, .inr (0, [.ref alt2, .ref abd2, .ref aeg2, .ref abr2, .ref ask2, .ref ash2, .ref ast2, .int (nI sn2), .int yr2])), (alt2, .inl (cI, 5, .inl lt2)), (abd2, .inl (cI, 5, .inl bd2)), (aeg2, .inl (cI, 5, .inl eg2)), (abr2, .inl (cI, 5, .inl br2)), (ask2, .inl (cI, 8, .inl sk2)), (ash2, .inl (cI, 8, .inl sh2)), (ast2, .inl (cZ, 8, .inl st2))] H := hP
        have hD : va_D A [(bk, .inr (0, [.ref alt, .ref abd, .ref aeg, .ref abr, .ref ask, .ref ash, .ref ast, .int (nI sn2), .int yr])), (alt, .inl (cI, 5, .inl lt2)), (abd, .inl (cI, 5, .inl bd2)), (aeg, .inl (cI, 5, .inl eg2)), (abr, .inl (cI, 5, .inl br2)), (ask, .inl (cI, 8, .inl sk2)), (ash, .inl (cI, 8, .inl sh2)), (ast, .inl (cZ, 8, .inl st2)), (b2, .inr (0, [.ref alt2, .ref abd2, .ref aeg2, .ref abr2, .ref ask2, .ref ash2, .ref ast2, .int (nI sn2), .int yr2])), (alt2, .inl (cI, 5, .inl lt2)), (abd2, .inl (cI, 5, .inl bd2)), (aeg2, .inl (cI, 5, .inl eg2)), (abr2, .inl (cI, 5, .inl br2)), (ask2, .inl (cI, 8, .inl sk2)), (ash2, .inl (cI, 8, .inl sh2)), (ast2, .inl (cZ, 8, .inl st2))] := hD
        refine lv_aload_n hx hb dX0_copyFrom_120 rfl (lv_at hl 1 rfl) ?_
        refine lv_aload_n hx hb dX0_copyFrom_121 rfl (lv_at hl 2 rfl) ?_
        refine va_get (D := D) (ci := 0) (v := .int yr2) (C := RX0) (T := TX0) (N := 9) hx hb hts hinX0 hown hE.1 hP 8 rfl rfl 8 (by decide) k_11 (fun _ h9 => h9) rfl dX0_copyFrom_122 ?_
        refine va_put (D := D) (ci := 0) (v := .int yr2) (ty := .int) (C := RX0) (T := TX0) (N := 9) hx hb hts hinX0 tyX0 tyX0_ok nmX0 hown hE.1 hP hD hS 0 rfl rfl 8 (by decide) k_11 (fun _ h9 => h9) rfl (by decide +kernel) rfl rfl (Nat.le_of_ble_eq_true rfl) dX0_copyFrom_125 (fun H locs hP hD hS => ?_)
        have hP : va_P D vwCl [(bk, .inr (0, [.ref alt, .ref abd, .ref aeg, .ref abr, .ref ask, .ref ash, .ref ast, .int (nI sn2), .int yr2])), (alt, .inl (cI, 5, .inl lt2)), (abd, .inl (cI, 5, .inl bd2)), (aeg, .inl (cI, 5, .inl eg2)), (abr, .inl (cI, 5, .inl br2)), (ask, .inl (cI, 8, .inl sk2)), (ash, .inl (cI, 8, .inl sh2)), (ast, .inl (cZ, 8, .inl st2)), (b2, .inr (0, [.ref alt2, .ref abd2, .ref aeg2, .ref abr2, .ref ask2, .ref ash2, .ref ast2, .int (nI sn2), .int yr2])), (alt2, .inl (cI, 5, .inl lt2)), (abd2, .inl (cI, 5, .inl bd2)), (aeg2, .inl (cI, 5, .inl eg2)), (abr2, .inl (cI, 5, .inl br2)), (ask2, .inl (cI, 8, .inl sk2)), (ash2, .inl (cI, 8, .inl sh2)), (ast2, .inl (cZ, 8, .inl st2))] H := hP
        have hD : va_D A [(bk, .inr (0, [.ref alt, .ref abd, .ref aeg, .ref abr, .ref ask, .ref ash, .ref ast, .int (nI sn2), .int yr2])), (alt, .inl (cI, 5, .inl lt2)), (abd, .inl (cI, 5, .inl bd2)), (aeg, .inl (cI, 5, .inl eg2)), (abr, .inl (cI, 5, .inl br2)), (ask, .inl (cI, 8, .inl sk2)), (ash, .inl (cI, 8, .inl sh2)), (ast, .inl (cZ, 8, .inl st2)), (b2, .inr (0, [.ref alt2, .ref abd2, .ref aeg2, .ref abr2, .ref ask2, .ref ash2, .ref ast2, .int (nI sn2), .int yr2])), (alt2, .inl (cI, 5, .inl lt2)), (abd2, .inl (cI, 5, .inl bd2)), (aeg2, .inl (cI, 5, .inl eg2)), (abr2, .inl (cI, 5, .inl br2)), (ask2, .inl (cI, 8, .inl sk2)), (ash2, .inl (cI, 8, .inl sh2)), (ast2, .inl (cZ, 8, .inl st2))] := hD
        have hP9 := hP.sub (ws' := [(bk, .inr (0, [.ref alt, .ref abd, .ref aeg, .ref abr, .ref ask, .ref ash, .ref ast, .int (nI sn2), .int yr2])), (alt, .inl (cI, 5, .inl lt2)), (abd, .inl (cI, 5, .inl bd2)), (aeg, .inl (cI, 5, .inl eg2)), (abr, .inl (cI, 5, .inl br2)), (ask, .inl (cI, 8, .inl sk2)), (ash, .inl (cI, 8, .inl sh2)), (ast, .inl (cZ, 8, .inl st2)), (b2, .inr (0, [.ref alt2, .ref abd2, .ref aeg2, .ref abr2, .ref ask2, .ref ash2, .ref ast2, .int (nI sn2), .int yr2])), (alt2, .inl (cI, 5, .inl lt2)), (abd2, .inl (cI, 5, .inl bd2)), (aeg2, .inl (cI, 5, .inl eg2)), (abr2, .inl (cI, 5, .inl br2)), (ask2, .inl (cI, 8, .inl sk2)), (ash2, .inl (cI, 8, .inl sh2)), (ast2, .inl (cZ, 8, .inl st2))]) [0, 1, 2, 3, 4, 5, 6, 7, 8, 9, 10, 11, 12, 13, 14, 15] rfl
        have hD9 := hD.sub (ws' := [(bk, .inr (0, [.ref alt, .ref abd, .ref aeg, .ref abr, .ref ask, .ref ash, .ref ast, .int (nI sn2), .int yr2])), (alt, .inl (cI, 5, .inl lt2)), (abd, .inl (cI, 5, .inl bd2)), (aeg, .inl (cI, 5, .inl eg2)), (abr, .inl (cI, 5, .inl br2)), (ask, .inl (cI, 8, .inl sk2)), (ash, .inl (cI, 8, .inl sh2)), (ast, .inl (cZ, 8, .inl st2)), (b2, .inr (0, [.ref alt2, .ref abd2, .ref aeg2, .ref abr2, .ref ask2, .ref ash2, .ref ast2, .int (nI sn2), .int yr2])), (alt2, .inl (cI, 5, .inl lt2)), (abd2, .inl (cI, 5, .inl bd2)), (aeg2, .inl (cI, 5, .inl eg2)), (abr2, .inl (cI, 5, .inl br2)), (ask2, .inl (cI, 8, .inl sk2)), (ash2, .inl (cI, 8, .inl sh2)), (ast2, .inl (cZ, 8, .inl st2))]) [0, 1, 2, 3, 4, 5, 6, 7, 8, 9, 10, 11, 12, 13, 14, 15] (by decide) rfl
        exact W.vret hx hb hr (fun t ht hW => ⟨⟨(), rfl, trivial, by rw [ht]; exact hP9, hD9⟩, hS.F ht⟩) hS.2.2 dX0_copyFrom_128
      · have n_91 := zn_nle (a := 8) (b := i) rfl rfl c_91 (by omega) (by omega)
        refine lv_aload_n hx hb dX0_copyFrom_94 rfl (lv_at hl 1 rfl) ?_
        refine va_get (D := D) (ci := 0) (v := .ref ast) (C := RX0) (T := TX0) (N := 9) hx hb hts hinX0 hown hE.1 hP 0 rfl rfl 6 (by decide) k_12 (fun _ h9 => h9) rfl dX0_copyFrom_95 ?_
        refine lv_iload_n hx hb dX0_copyFrom_98 rfl (lv_at hl 0 rfl) ?_
        refine lv_aload_n hx hb dX0_copyFrom_99 rfl (lv_at hl 2 rfl) ?_
        refine va_get (D := D) (ci := 0) (v := .ref ast2) (C := RX0) (T := TX0) (N := 9) hx hb hts hinX0 hown hE.1 hP 8 rfl rfl 6 (by decide) k_12 (fun _ h9 => h9) rfl dX0_copyFrom_100 ?_
        refine lv_iload_n hx hb dX0_copyFrom_103 rfl (lv_at hl 0 rfl) ?_
        refine z_zald hx hb hE hP 15 rfl (j := i) rfl (by omega) (by decide) dX0_copyFrom_104 ?_
        refine z_zast hx hb hE hP hD hS 7 rfl (j := i) rfl (by omega) (by decide) (by rcases hst i (by omega) with q | q <;> rw [q] <;> rfl) dX0_copyFrom_105 (fun H locs hP hD hS => ?_)
        have hP : va_P D vwCl [(bk, .inr (0, [.ref alt, .ref abd, .ref aeg, .ref abr, .ref ask, .ref ash, .ref ast, .int (nI sn), .int yr])), (alt, .inl (cI, 5, .inl lt2)), (abd, .inl (cI, 5, .inl bd2)), (aeg, .inl (cI, 5, .inl eg2)), (abr, .inl (cI, 5, .inl br2)), (ask, .inl (cI, 8, .inl sk2)), (ash, .inl (cI, 8, .inl sh2)), (ast, .inl (cZ, 8, .inl (upd (cyN st st2 i) i (st2 i)))), (b2, .inr (0, [.ref alt2, .ref abd2, .ref aeg2, .ref abr2, .ref ask2, .ref ash2, .ref ast2, .int (nI sn2), .int yr2])), (alt2, .inl (cI, 5, .inl lt2)), (abd2, .inl (cI, 5, .inl bd2)), (aeg2, .inl (cI, 5, .inl eg2)), (abr2, .inl (cI, 5, .inl br2)), (ask2, .inl (cI, 8, .inl sk2)), (ash2, .inl (cI, 8, .inl sh2)), (ast2, .inl (cZ, 8, .inl st2))] H := hP
        have hD : va_D A [(bk, .inr (0, [.ref alt, .ref abd, .ref aeg, .ref abr, .ref ask, .ref ash, .ref ast, .int (nI sn), .int yr])), (alt, .inl (cI, 5, .inl lt2)), (abd, .inl (cI, 5, .inl bd2)), (aeg, .inl (cI, 5, .inl eg2)), (abr, .inl (cI, 5, .inl br2)), (ask, .inl (cI, 8, .inl sk2)), (ash, .inl (cI, 8, .inl sh2)), (ast, .inl (cZ, 8, .inl (upd (cyN st st2 i) i (st2 i)))), (b2, .inr (0, [.ref alt2, .ref abd2, .ref aeg2, .ref abr2, .ref ask2, .ref ash2, .ref ast2, .int (nI sn2), .int yr2])), (alt2, .inl (cI, 5, .inl lt2)), (abd2, .inl (cI, 5, .inl bd2)), (aeg2, .inl (cI, 5, .inl eg2)), (abr2, .inl (cI, 5, .inl br2)), (ask2, .inl (cI, 8, .inl sk2)), (ash2, .inl (cI, 8, .inl sh2)), (ast2, .inl (cZ, 8, .inl st2))] := hD
        refine lv_iinc (v := nI (i + 1)) (lv' := [(2, .int (nI (i + 1))), (0, .ref bk), (1, .ref b2)]) hx hb dX0_copyFrom_106 hl (k := 0) rfl (nI_add i 1) (by decide) rfl (fun ls hl => ?_)
        refine lv_goto (tgt := 88) hx hb dX0_copyFrom_109 (by decide) ?_
        exact ihhc88_1 (i + 1) (by omega) (by omega) (nI (i + 1)) rfl (upd (cyN st st2 i) i (st2 i)) rfl _ _ (hP.sub [0, 1, 2, 3, 4, 5, 6, 7, 8, 9, 10, 11, 12, 13, 14, 15] rfl) (hD.sub [0, 1, 2, 3, 4, 5, 6, 7, 8, 9, 10, 11, 12, 13, 14, 15] (by decide) rfl) hS ls (lv_sub hl [0, 1, 2] rfl)
  exact hc88_1 (8 + 1) 0 (by omega) (by omega) 0 rfl st rfl _ _ (hP.sub [0, 1, 2, 3, 4, 5, 6, 7, 8, 9, 10, 11, 12, 13, 14, 15] rfl) (hD.sub [0, 1, 2, 3, 4, 5, 6, 7, 8, 9, 10, 11, 12, 13, 14, 15] (by decide) rfl) hS ls (lv_sub hl [0, 1, 2] rfl)

set_option maxHeartbeats 1000000 in
set_option maxRecDepth 100000 in
theorem c_X1_drawOfTen (l : Launch) (D : va_G) (cI cZ cA : ClassId) (sz : Nat) (rn : Nat) (aceg : Nat) (cbk : Int32) (csd : Int64)  : Met l yX1_drawOfTen wsX1_drawOfTen (zr 1) (va_Pc [.ref rn] (zPw D cI cZ cA [(rn, .inr (1, [.ref aceg, .int cbk, .long csd]))] sz)) (va_Ql (fun (r : Int64) (_ : Unit) => r = drw csd) (zB D [(rn, .inr (1, [.ref aceg, .int cbk, .long (drL csd)]))] (va_A [(rn, .inr (1, [.ref aceg, .int cbk, .long csd]))] sz)) (va_A [(rn, .inr (1, [.ref aceg, .int cbk, .long csd]))] sz)) 0 0 (va_A [(rn, .inr (1, [.ref aceg, .int cbk, .long csd]))] sz) := by
  refine Met.ofW (cc := cX1_drawOfTen) (maxL := 1) (ret := (some .long)) (by decide) rfl ?_
  intro p e s m args below meth c s₁ B hml hv
  obtain ⟨rfl, hsz, hP, hD0, hE⟩ := hv
  have hx := B.exec
  have hb := B.bytes
  have hr := B.returns
  have hts := atoms_spec (ws := wsX1_drawOfTen) B.pre
  have hown : s.vm.findClass RX1 = some m.cls := findClass_of_methodNamed B.named
  have hlocks := B.notSynchronized
  subst hsz
  have hD := hD0.self (sz := s.heap.size)
  generalize hAe : va_A [(rn, .inr (1, [.ref aceg, .int cbk, .long csd]))] s.heap.size = A at hD ⊢
  have hA : ∀ q : Nat, s.heap.size ≤ q → A q := fun q h => by rw [← hAe]; exact Or.inr h
  have hS : va_S A s.heap s.heap [] := va_S.rf
  have hP : va_P D vwCl [(rn, .inr (1, [.ref aceg, .int cbk, .long csd]))] s.heap := hP
  have hD : va_D A [(rn, .inr (1, [.ref aceg, .int cbk, .long csd]))] := hD
  have hl := lv_entry ([.ref rn]) (n := 1) (Nat.le_of_ble_eq_true rfl)
  rw [lg_entry_eq]
  generalize (lg_sl ([.ref rn]) ++ List.replicate (1 - (lg_sl ([.ref rn])).length) Slot.unset).toArray = ls at hl ⊢
  have hl : lv_has ls 1 [(0, .ref rn)] := hl
  have hinX1 : ∀ w ∈ wsX10, w ∈ wsX1_drawOfTen := fun w h => List.mem_cons_of_mem _ (List.mem_append_right _ h)
  have k_0 := hts (.constantLong RX1 66 (1103515245)) (by decide +kernel)
  have k_1 := hts (.fieldLink RX1 28 "VowDoves$Centuries" "seed" "J") (by decide +kernel)
  have k_2 := hts (.constantLong RX1 68 (12345)) (by decide +kernel)
  have k_3 := hts (.constantLong RX1 70 (2147483647)) (by decide +kernel)
  have k_4 := hts (.constantLong RX1 72 (65536)) (by decide +kernel)
  have k_5 := hts (.constantLong RX1 74 (10)) (by decide +kernel)
  refine lv_aload_n hx hb dX1_drawOfTen_0 rfl (lv_at hl 0 rfl) ?_
  refine lv_ldc2 (v := 1103515245) hx hb hown k_0 dX1_drawOfTen_1 ?_
  refine lv_aload_n hx hb dX1_drawOfTen_4 rfl (lv_at hl 0 rfl) ?_
  refine va_get (D := D) (ci := 1) (v := .long csd) (C := RX1) (T := TX1) (N := 3) hx hb hts hinX1 hown hE.1 hP 0 rfl rfl 2 (by decide) k_1 (fun _ h9 => h9) rfl dX1_drawOfTen_5 ?_
  refine lv_lmul hx hb dX1_drawOfTen_8 ?_
  refine lv_ldc2 (v := 12345) hx hb hown k_2 dX1_drawOfTen_9 ?_
  refine lv_ladd hx hb dX1_drawOfTen_12 ?_
  refine lv_ldc2 (v := 2147483647) hx hb hown k_3 dX1_drawOfTen_13 ?_
  refine lv_land hx hb dX1_drawOfTen_16 ?_
  refine va_put (D := D) (ci := 1) (v := .long (((1103515245 * csd) + 12345) &&& 2147483647)) (ty := .long) (C := RX1) (T := TX1) (N := 3) hx hb hts hinX1 tyX1 tyX1_ok nmX1 hown hE.1 hP hD hS 0 rfl rfl 2 (by decide) k_1 (fun _ h9 => h9) rfl (by decide +kernel) rfl rfl (Nat.le_of_ble_eq_true rfl) dX1_drawOfTen_17 (fun H locs hP hD hS => ?_)
  have hP : va_P D vwCl [(rn, .inr (1, [.ref aceg, .int cbk, .long (((1103515245 * csd) + 12345) &&& 2147483647)]))] H := hP
  have hD : va_D A [(rn, .inr (1, [.ref aceg, .int cbk, .long (((1103515245 * csd) + 12345) &&& 2147483647)]))] := hD
  refine lv_aload_n hx hb dX1_drawOfTen_20 rfl (lv_at hl 0 rfl) ?_
  refine va_get (D := D) (ci := 1) (v := .long (((1103515245 * csd) + 12345) &&& 2147483647)) (C := RX1) (T := TX1) (N := 3) hx hb hts hinX1 hown hE.1 hP 0 rfl rfl 2 (by decide) k_1 (fun _ h9 => h9) rfl dX1_drawOfTen_21 ?_
  refine lv_ldc2 (v := 65536) hx hb hown k_4 dX1_drawOfTen_24 ?_
  refine lv_ldiv hx hb dX1_drawOfTen_27 (by decide) ?_
  refine lv_ldc2 (v := 10) hx hb hown k_5 dX1_drawOfTen_28 ?_
  refine lv_lrem hx hb dX1_drawOfTen_31 (by decide) ?_
  have hP9 := hP.sub (ws' := [(rn, .inr (1, [.ref aceg, .int cbk, .long (drL csd)]))]) [0] rfl
  have hD9 := hD.sub (ws' := [(rn, .inr (1, [.ref aceg, .int cbk, .long (drL csd)]))]) [0] (by decide) rfl
  exact W.lret (v := ((((1103515245 * csd) + 12345) &&& 2147483647) / 65536) - ((((1103515245 * csd) + 12345) &&& 2147483647) / 65536) / 10 * 10) hx hb hr (fun t ht hW => ⟨⟨(((((1103515245 * csd) + 12345) &&& 2147483647) / 65536) - ((((1103515245 * csd) + 12345) &&& 2147483647) / 65536) / 10 * 10), (), rfl, rfl, by rw [ht]; exact hP9, hD9⟩, hS.F ht⟩) hS.2.2 dX1_drawOfTen_32

set_option maxHeartbeats 1000000 in
set_option maxRecDepth 100000 in
theorem c_X1_passYear (l : Launch) (D : va_G) (cI cZ cA : ClassId) (sz : Nat) (rn : Nat) (aceg : Nat) (cbk : Int32) (csd : Int64) (co : Nat) (akd : Nat) (afa : Nat) (ahd : Nat) (K : Nat) (Hn : Nat) (ceg : Nat → Int32) (kd : Nat → Int32) (fa : Nat → Int32) (hd : Nat → Int32) (h : Nat) (k : Int32) (hh : h < 5) (hK : K ≤ 5) : Met l yX1_passYear wsX1_passYear (zr 4) (va_Pc [.ref rn, .ref co, .int (nI h), .int k] (zPw D cI cZ cA [(rn, .inr (1, [.ref aceg, .int cbk, .long csd])), (aceg, .inl (cI, 5, .inl ceg)), (co, .inr (2, [.ref akd, .ref afa, .ref ahd, .int (nI K), .int (nI Hn)])), (akd, .inl (cI, 5, .inl kd)), (afa, .inl (cI, 5, .inl fa)), (ahd, .inl (cI, 5, .inl hd))] sz)) (va_Qv (fun (_ : Unit) => True) (zB D [(rn, .inr (1, [.ref aceg, .int ((pySt K kd fa hd k h (csd, cbk, ceg)).2.1), .long ((pySt K kd fa hd k h (csd, cbk, ceg)).1)])), (aceg, .inl (cI, 5, .inl ((pySt K kd fa hd k h (csd, cbk, ceg)).2.2))), (co, .inr (2, [.ref akd, .ref afa, .ref ahd, .int (nI K), .int (nI Hn)])), (akd, .inl (cI, 5, .inl kd)), (afa, .inl (cI, 5, .inl fa)), (ahd, .inl (cI, 5, .inl hd))] (va_A [(rn, .inr (1, [.ref aceg, .int cbk, .long csd])), (aceg, .inl (cI, 5, .inl ceg)), (co, .inr (2, [.ref akd, .ref afa, .ref ahd, .int (nI K), .int (nI Hn)])), (akd, .inl (cI, 5, .inl kd)), (afa, .inl (cI, 5, .inl fa)), (ahd, .inl (cI, 5, .inl hd))] sz)) (va_A [(rn, .inr (1, [.ref aceg, .int cbk, .long csd])), (aceg, .inl (cI, 5, .inl ceg)), (co, .inr (2, [.ref akd, .ref afa, .ref ahd, .int (nI K), .int (nI Hn)])), (akd, .inl (cI, 5, .inl kd)), (afa, .inl (cI, 5, .inl fa)), (ahd, .inl (cI, 5, .inl hd))] sz)) 0 0 (va_A [(rn, .inr (1, [.ref aceg, .int cbk, .long csd])), (aceg, .inl (cI, 5, .inl ceg)), (co, .inr (2, [.ref akd, .ref afa, .ref ahd, .int (nI K), .int (nI Hn)])), (akd, .inl (cI, 5, .inl kd)), (afa, .inl (cI, 5, .inl fa)), (ahd, .inl (cI, 5, .inl hd))] sz) := by
  refine Met.ofW (cc := cX1_passYear) (maxL := 4) (ret := none) (by decide) rfl ?_
  intro p e s m args below meth c s₁ B hml hv
  obtain ⟨rfl, hsz, hP, hD0, hE⟩ := hv
  have hx := B.exec
  have hb := B.bytes
  have hr := B.returns
  have hts := atoms_spec (ws := wsX1_passYear) B.pre
  have hown : s.vm.findClass RX1 = some m.cls := findClass_of_methodNamed B.named
  have hlocks := B.notSynchronized
  subst hsz
  have hD := hD0.self (sz := s.heap.size)
  generalize hAe : va_A [(rn, .inr (1, [.ref aceg, .int cbk, .long csd])), (aceg, .inl (cI, 5, .inl ceg)), (co, .inr (2, [.ref akd, .ref afa, .ref ahd, .int (nI K), .int (nI Hn)])), (akd, .inl (cI, 5, .inl kd)), (afa, .inl (cI, 5, .inl fa)), (ahd, .inl (cI, 5, .inl hd))] s.heap.size = A at hD ⊢
  have hA : ∀ q : Nat, s.heap.size ≤ q → A q := fun q h => by rw [← hAe]; exact Or.inr h
  have hS : va_S A s.heap s.heap [] := va_S.rf
  have hP : va_P D vwCl [(rn, .inr (1, [.ref aceg, .int cbk, .long csd])), (aceg, .inl (cI, 5, .inl ceg)), (co, .inr (2, [.ref akd, .ref afa, .ref ahd, .int (nI K), .int (nI Hn)])), (akd, .inl (cI, 5, .inl kd)), (afa, .inl (cI, 5, .inl fa)), (ahd, .inl (cI, 5, .inl hd))] s.heap := hP
  have hD : va_D A [(rn, .inr (1, [.ref aceg, .int cbk, .long csd])), (aceg, .inl (cI, 5, .inl ceg)), (co, .inr (2, [.ref akd, .ref afa, .ref ahd, .int (nI K), .int (nI Hn)])), (akd, .inl (cI, 5, .inl kd)), (afa, .inl (cI, 5, .inl fa)), (ahd, .inl (cI, 5, .inl hd))] := hD
  have hl := lv_entry ([.ref rn, .ref co, .int (nI h), .int k]) (n := 4) (Nat.le_of_ble_eq_true rfl)
  rw [lg_entry_eq]
  generalize (lg_sl ([.ref rn, .ref co, .int (nI h), .int k]) ++ List.replicate (4 - (lg_sl ([.ref rn, .ref co, .int (nI h), .int k])).length) Slot.unset).toArray = ls at hl ⊢
  have hl : lv_has ls 4 [(0, .ref rn), (1, .ref co), (2, .int (nI h)), (3, .int k)] := hl
  have hinX1 : ∀ w ∈ wsX10, w ∈ wsX1_passYear := fun w h => List.mem_cons_of_mem _ (List.mem_append_right _ h)
  have hinX2 : ∀ w ∈ wsX20, w ∈ wsX1_passYear := fun w h => List.mem_cons_of_mem _ (List.mem_append_left _ (List.mem_append_right _ h))
  have k_0 := hts (.fieldLink RX1 55 "VowDoves$Cote" "hards" "[I") (by decide +kernel)
  have k_1 := hts (.fieldLink RX1 9 "VowDoves$Centuries" "eggs" "[I") (by decide +kernel)
  have k_2 := hts (.fieldLink RX1 24 "VowDoves$Centuries" "broken" "I") (by decide +kernel)
  refine lv_aload_n hx hb dX1_passYear_0 rfl (lv_at hl 0 rfl) ?_
  refine z_rwVl (As := []) (rest := []) (wr := [(aceg, .inl (cI, 5, .inl ceg)), (co, .inr (2, [.ref akd, .ref afa, .ref ahd, .int (nI K), .int (nI Hn)])), (akd, .inl (cI, 5, .inl kd)), (afa, .inl (cI, 5, .inl fa)), (ahd, .inl (cI, 5, .inl hd))]) (w1 := [(rn, .inr (1, [.ref aceg, .int cbk, .long (drL csd)]))]) ⟨hx, hb, hml, hown, hts⟩ (c_X1_drawOfTen l D cI cZ cA _ rn aceg cbk csd ) (cwV 0 hts gX1_passYear_X1_drawOfTen rfl rfl rfl (by decide +kernel) ⟨Nat.le_of_ble_eq_true rfl, Nat.le_of_ble_eq_true rfl⟩) hE hP hD hS hA [0] [1, 2, 3, 4, 5] rfl rfl rfl (by decide) (by decide) (by decide) 0 1 rfl rfl rfl hl.1 rfl (Nat.le_of_ble_eq_true rfl) dX1_passYear_1 ⟨Nat.zero_le _, Nat.zero_le _⟩ (fun H locs hP hD hS => ?_)
  have hP : va_P D vwCl [(aceg, .inl (cI, 5, .inl ceg)), (co, .inr (2, [.ref akd, .ref afa, .ref ahd, .int (nI K), .int (nI Hn)])), (akd, .inl (cI, 5, .inl kd)), (afa, .inl (cI, 5, .inl fa)), (ahd, .inl (cI, 5, .inl hd)), (rn, .inr (1, [.ref aceg, .int cbk, .long (drL csd)]))] H := hP
  have hD : va_D A [(aceg, .inl (cI, 5, .inl ceg)), (co, .inr (2, [.ref akd, .ref afa, .ref ahd, .int (nI K), .int (nI Hn)])), (akd, .inl (cI, 5, .inl kd)), (afa, .inl (cI, 5, .inl fa)), (ahd, .inl (cI, 5, .inl hd)), (rn, .inr (1, [.ref aceg, .int cbk, .long (drL csd)]))] := hD
  refine lv_aload_n hx hb dX1_passYear_4 rfl (lv_at hl 1 rfl) ?_
  refine lv_iload_n hx hb dX1_passYear_5 rfl (lv_at hl 3 rfl) ?_
  refine lv_aload_n hx hb dX1_passYear_6 rfl (lv_at hl 1 rfl) ?_
  refine va_get (D := D) (ci := 2) (v := .ref ahd) (C := RX2) (T := TX2) (N := 5) hx hb hts hinX2 hown hE.1 hP 1 rfl rfl 2 (by decide) k_0 (fun _ h9 => h9) rfl dX1_passYear_7 ?_
  refine lv_iload_n hx hb dX1_passYear_10 rfl (lv_at hl 2 rfl) ?_
  refine z_iald hx hb hE hP 4 rfl (j := h) rfl (by omega) (by decide) dX1_passYear_11 ?_
  refine z_roVi (As := [.int k, .int (hd h)]) (rest := [.long (drw csd)]) ⟨hx, hb, hml, hown, hts⟩ (c_X2_yearsKept l D cI cZ cA co akd afa ahd K Hn kd fa k (hd h) (by first | assumption | omega)) (cwV 2 hts gX1_passYear_X2_yearsKept rfl rfl rfl (by decide +kernel) ⟨Nat.le_of_ble_eq_true rfl, Nat.le_of_ble_eq_true rfl⟩) hE hP [1, 2, 3] rfl 0 2 rfl rfl rfl hl.1 rfl (Nat.le_of_ble_eq_true rfl) dX1_passYear_12 ⟨Nat.zero_le _, Nat.zero_le _⟩ ?_
  refine lv_i2l (v := ((ykAt K kd fa k (hd h)) : Int32).toInt64) hx hb dX1_passYear_15 rfl ?_
  refine W.lcmp hx hb dX1_passYear_16 ?_
  refine lv_if_ge (tgt := 37) hx hb dX1_passYear_17 (by decide) (fun c_17 => ?_) (fun c_17 => ?_)
  · have c_17 := zl_ge c_17
    refine lv_aload_n hx hb dX1_passYear_37 rfl (lv_at hl 0 rfl) ?_
    refine va_get (D := D) (ci := 1) (v := .ref aceg) (C := RX1) (T := TX1) (N := 3) hx hb hts hinX1 hown hE.1 hP 5 rfl rfl 0 (by decide) k_1 (fun _ h9 => h9) rfl dX1_passYear_38 ?_
    refine lv_iload_n hx hb dX1_passYear_41 rfl (lv_at hl 2 rfl) ?_
    refine lv_iconst (v := 0) hx hb dX1_passYear_42 (by decide) ?_
    refine z_iast hx hb hE hP hD hS 0 rfl (j := h) rfl (by omega) (by decide) dX1_passYear_43 (fun H locs hP hD hS => ?_)
    have hP : va_P D vwCl [(aceg, .inl (cI, 5, .inl (upd ceg h 0))), (co, .inr (2, [.ref akd, .ref afa, .ref ahd, .int (nI K), .int (nI Hn)])), (akd, .inl (cI, 5, .inl kd)), (afa, .inl (cI, 5, .inl fa)), (ahd, .inl (cI, 5, .inl hd)), (rn, .inr (1, [.ref aceg, .int cbk, .long (drL csd)]))] H := hP
    have hD : va_D A [(aceg, .inl (cI, 5, .inl (upd ceg h 0))), (co, .inr (2, [.ref akd, .ref afa, .ref ahd, .int (nI K), .int (nI Hn)])), (akd, .inl (cI, 5, .inl kd)), (afa, .inl (cI, 5, .inl fa)), (ahd, .inl (cI, 5, .inl hd)), (rn, .inr (1, [.ref aceg, .int cbk, .long (drL csd)]))] := hD
    refine lv_aload_n hx hb dX1_passYear_44 rfl (lv_at hl 0 rfl) ?_
    refine lv_dup hx hb dX1_passYear_45 rfl ?_
    refine va_get (D := D) (ci := 1) (v := .int cbk) (C := RX1) (T := TX1) (N := 3) hx hb hts hinX1 hown hE.1 hP 5 rfl rfl 1 (by decide) k_2 (fun _ h9 => h9) rfl dX1_passYear_46 ?_
    refine lv_iconst (v := 1) hx hb dX1_passYear_49 (by decide) ?_
    refine lv_iadd hx hb dX1_passYear_50 ?_
    refine va_put (D := D) (ci := 1) (v := .int (cbk + 1)) (ty := .int) (C := RX1) (T := TX1) (N := 3) hx hb hts hinX1 tyX1 tyX1_ok nmX1 hown hE.1 hP hD hS 5 rfl rfl 1 (by decide) k_2 (fun _ h9 => h9) rfl (by decide +kernel) rfl rfl (Nat.le_of_ble_eq_true rfl) dX1_passYear_51 (fun H locs hP hD hS => ?_)
    have hP : va_P D vwCl [(aceg, .inl (cI, 5, .inl (upd ceg h 0))), (co, .inr (2, [.ref akd, .ref afa, .ref ahd, .int (nI K), .int (nI Hn)])), (akd, .inl (cI, 5, .inl kd)), (afa, .inl (cI, 5, .inl fa)), (ahd, .inl (cI, 5, .inl hd)), (rn, .inr (1, [.ref aceg, .int (cbk + 1), .long (drL csd)]))] H := hP
    have hD : va_D A [(aceg, .inl (cI, 5, .inl (upd ceg h 0))), (co, .inr (2, [.ref akd, .ref afa, .ref ahd, .int (nI K), .int (nI Hn)])), (akd, .inl (cI, 5, .inl kd)), (afa, .inl (cI, 5, .inl fa)), (ahd, .inl (cI, 5, .inl hd)), (rn, .inr (1, [.ref aceg, .int (cbk + 1), .long (drL csd)]))] := hD
    have e9 : (pySt K kd fa hd k h (csd, cbk, ceg)) = (drL csd, cbk + 1, upd ceg h 0) := (by unfold pySt; rw [if_pos c_17])
    have hP9 := hP.sub (ws' := [(rn, .inr (1, [.ref aceg, .int ((pySt K kd fa hd k h (csd, cbk, ceg)).2.1), .long ((pySt K kd fa hd k h (csd, cbk, ceg)).1)])), (aceg, .inl (cI, 5, .inl ((pySt K kd fa hd k h (csd, cbk, ceg)).2.2))), (co, .inr (2, [.ref akd, .ref afa, .ref ahd, .int (nI K), .int (nI Hn)])), (akd, .inl (cI, 5, .inl kd)), (afa, .inl (cI, 5, .inl fa)), (ahd, .inl (cI, 5, .inl hd))]) [5, 0, 1, 2, 3, 4] (by rw [e9]; try rfl)
    have hD9 := hD.sub (ws' := [(rn, .inr (1, [.ref aceg, .int ((pySt K kd fa hd k h (csd, cbk, ceg)).2.1), .long ((pySt K kd fa hd k h (csd, cbk, ceg)).1)])), (aceg, .inl (cI, 5, .inl ((pySt K kd fa hd k h (csd, cbk, ceg)).2.2))), (co, .inr (2, [.ref akd, .ref afa, .ref ahd, .int (nI K), .int (nI Hn)])), (akd, .inl (cI, 5, .inl kd)), (afa, .inl (cI, 5, .inl fa)), (ahd, .inl (cI, 5, .inl hd))]) [5, 0, 1, 2, 3, 4] (by decide) (by rw [e9]; try rfl)
    exact W.vret hx hb hr (fun t ht hW => ⟨⟨(), rfl, trivial, by rw [ht]; exact hP9, hD9⟩, hS.F ht⟩) hS.2.2 dX1_passYear_54
  · have c_17 := zl_nge c_17
    refine lv_aload_n hx hb dX1_passYear_20 rfl (lv_at hl 0 rfl) ?_
    refine va_get (D := D) (ci := 1) (v := .ref aceg) (C := RX1) (T := TX1) (N := 3) hx hb hts hinX1 hown hE.1 hP 5 rfl rfl 0 (by decide) k_1 (fun _ h9 => h9) rfl dX1_passYear_21 ?_
    refine lv_iload_n hx hb dX1_passYear_24 rfl (lv_at hl 2 rfl) ?_
    refine lv_dup2_11 hx hb dX1_passYear_25 rfl rfl ?_
    refine z_iald hx hb hE hP 0 rfl (j := h) rfl (by omega) (by decide) dX1_passYear_26 ?_
    refine lv_aload_n hx hb dX1_passYear_27 rfl (lv_at hl 1 rfl) ?_
    refine lv_iload_n hx hb dX1_passYear_28 rfl (lv_at hl 3 rfl) ?_
    refine z_roVi (As := [.int k]) (rest := [.int (ceg h), .int (nI h), .ref aceg]) ⟨hx, hb, hml, hown, hts⟩ (c_X2_eggsOfAYear l D cI cZ cA co akd afa ahd K Hn kd k (by first | assumption | omega)) (cwV 1 hts gX1_passYear_X2_eggsOfAYear rfl rfl rfl (by decide +kernel) ⟨Nat.le_of_ble_eq_true rfl, Nat.le_of_ble_eq_true rfl⟩) hE hP [1, 2] rfl 0 2 rfl rfl rfl hl.1 rfl (Nat.le_of_ble_eq_true rfl) dX1_passYear_29 ⟨Nat.zero_le _, Nat.zero_le _⟩ ?_
    refine lv_iadd hx hb dX1_passYear_32 ?_
    refine z_iast hx hb hE hP hD hS 0 rfl (j := h) rfl (by omega) (by decide) dX1_passYear_33 (fun H locs hP hD hS => ?_)
    have hP : va_P D vwCl [(aceg, .inl (cI, 5, .inl (upd ceg h ((ceg h) + (eggY K kd k))))), (co, .inr (2, [.ref akd, .ref afa, .ref ahd, .int (nI K), .int (nI Hn)])), (akd, .inl (cI, 5, .inl kd)), (afa, .inl (cI, 5, .inl fa)), (ahd, .inl (cI, 5, .inl hd)), (rn, .inr (1, [.ref aceg, .int cbk, .long (drL csd)]))] H := hP
    have hD : va_D A [(aceg, .inl (cI, 5, .inl (upd ceg h ((ceg h) + (eggY K kd k))))), (co, .inr (2, [.ref akd, .ref afa, .ref ahd, .int (nI K), .int (nI Hn)])), (akd, .inl (cI, 5, .inl kd)), (afa, .inl (cI, 5, .inl fa)), (ahd, .inl (cI, 5, .inl hd)), (rn, .inr (1, [.ref aceg, .int cbk, .long (drL csd)]))] := hD
    refine lv_goto (tgt := 54) hx hb dX1_passYear_34 (by decide) ?_
    have e9 : (pySt K kd fa hd k h (csd, cbk, ceg)) = (drL csd, cbk, upd ceg h ((ceg h) + (eggY K kd k))) := (by unfold pySt; rw [if_neg c_17])
    have hP9 := hP.sub (ws' := [(rn, .inr (1, [.ref aceg, .int ((pySt K kd fa hd k h (csd, cbk, ceg)).2.1), .long ((pySt K kd fa hd k h (csd, cbk, ceg)).1)])), (aceg, .inl (cI, 5, .inl ((pySt K kd fa hd k h (csd, cbk, ceg)).2.2))), (co, .inr (2, [.ref akd, .ref afa, .ref ahd, .int (nI K), .int (nI Hn)])), (akd, .inl (cI, 5, .inl kd)), (afa, .inl (cI, 5, .inl fa)), (ahd, .inl (cI, 5, .inl hd))]) [5, 0, 1, 2, 3, 4] (by rw [e9]; try rfl)
    have hD9 := hD.sub (ws' := [(rn, .inr (1, [.ref aceg, .int ((pySt K kd fa hd k h (csd, cbk, ceg)).2.1), .long ((pySt K kd fa hd k h (csd, cbk, ceg)).1)])), (aceg, .inl (cI, 5, .inl ((pySt K kd fa hd k h (csd, cbk, ceg)).2.2))), (co, .inr (2, [.ref akd, .ref afa, .ref ahd, .int (nI K), .int (nI Hn)])), (akd, .inl (cI, 5, .inl kd)), (afa, .inl (cI, 5, .inl fa)), (ahd, .inl (cI, 5, .inl hd))]) [5, 0, 1, 2, 3, 4] (by decide) (by rw [e9]; try rfl)
    exact W.vret hx hb hr (fun t ht hW => ⟨⟨(), rfl, trivial, by rw [ht]; exact hP9, hD9⟩, hS.F ht⟩) hS.2.2 dX1_passYear_54

set_option maxHeartbeats 1000000 in
set_option maxRecDepth 100000 in
theorem c_X1_pass (l : Launch) (D : va_G) (cI cZ cA : ClassId) (sz : Nat) (rn : Nat) (aceg : Nat) (cbk : Int32) (csd : Int64) (co : Nat) (akd : Nat) (afa : Nat) (ahd : Nat) (K : Nat) (Hn : Nat) (bk : Nat) (alt : Nat) (abd : Nat) (aeg : Nat) (abr : Nat) (ask : Nat) (ash : Nat) (ast : Nat) (sn : Nat) (yr : Int32) (ceg : Nat → Int32) (kd : Nat → Int32) (fa : Nat → Int32) (hd : Nat → Int32) (lt : Nat → Int32) (bd : Nat → Int32) (eg : Nat → Int32) (my : Nat) (seed : Int32) (hK : K ≤ 5) (hH : Hn ≤ 5) (hmy : my ≤ 60) : Met l yX1_pass wsX1_pass (zr 5) (va_Pc [.ref rn, .ref co, .ref bk, .int (nI my), .int seed] (zPw D cI cZ cA [(rn, .inr (1, [.ref aceg, .int cbk, .long csd])), (aceg, .inl (cI, 5, .inl ceg)), (co, .inr (2, [.ref akd, .ref afa, .ref ahd, .int (nI K), .int (nI Hn)])), (akd, .inl (cI, 5, .inl kd)), (afa, .inl (cI, 5, .inl fa)), (ahd, .inl (cI, 5, .inl hd)), (bk, .inr (0, [.ref alt, .ref abd, .ref aeg, .ref abr, .ref ask, .ref ash, .ref ast, .int (nI sn), .int yr])), (alt, .inl (cI, 5, .inl lt)), (abd, .inl (cI, 5, .inl bd)), (aeg, .inl (cI, 5, .inl eg))] sz)) (va_Qv (fun (_ : Unit) => True) (zB D [(rn, .inr (1, [.ref aceg, .int ((pY K Hn kd fa hd lt bd (seed.toInt64, 0, eg) my).2.1), .long ((pY K Hn kd fa hd lt bd (seed.toInt64, 0, eg) my).1)])), (aceg, .inl (cI, 5, .inl ((pY K Hn kd fa hd lt bd (seed.toInt64, 0, eg) my).2.2))), (co, .inr (2, [.ref akd, .ref afa, .ref ahd, .int (nI K), .int (nI Hn)])), (akd, .inl (cI, 5, .inl kd)), (afa, .inl (cI, 5, .inl fa)), (ahd, .inl (cI, 5, .inl hd)), (bk, .inr (0, [.ref alt, .ref abd, .ref aeg, .ref abr, .ref ask, .ref ash, .ref ast, .int (nI sn), .int yr])), (alt, .inl (cI, 5, .inl lt)), (abd, .inl (cI, 5, .inl bd)), (aeg, .inl (cI, 5, .inl eg))] (va_A [(rn, .inr (1, [.ref aceg, .int cbk, .long csd])), (aceg, .inl (cI, 5, .inl ceg)), (co, .inr (2, [.ref akd, .ref afa, .ref ahd, .int (nI K), .int (nI Hn)])), (akd, .inl (cI, 5, .inl kd)), (afa, .inl (cI, 5, .inl fa)), (ahd, .inl (cI, 5, .inl hd)), (bk, .inr (0, [.ref alt, .ref abd, .ref aeg, .ref abr, .ref ask, .ref ash, .ref ast, .int (nI sn), .int yr])), (alt, .inl (cI, 5, .inl lt)), (abd, .inl (cI, 5, .inl bd)), (aeg, .inl (cI, 5, .inl eg))] sz)) (va_A [(rn, .inr (1, [.ref aceg, .int cbk, .long csd])), (aceg, .inl (cI, 5, .inl ceg)), (co, .inr (2, [.ref akd, .ref afa, .ref ahd, .int (nI K), .int (nI Hn)])), (akd, .inl (cI, 5, .inl kd)), (afa, .inl (cI, 5, .inl fa)), (ahd, .inl (cI, 5, .inl hd)), (bk, .inr (0, [.ref alt, .ref abd, .ref aeg, .ref abr, .ref ask, .ref ash, .ref ast, .int (nI sn), .int yr])), (alt, .inl (cI, 5, .inl lt)), (abd, .inl (cI, 5, .inl bd)), (aeg, .inl (cI, 5, .inl eg))] sz)) 0 0 (va_A [(rn, .inr (1, [.ref aceg, .int cbk, .long csd])), (aceg, .inl (cI, 5, .inl ceg)), (co, .inr (2, [.ref akd, .ref afa, .ref ahd, .int (nI K), .int (nI Hn)])), (akd, .inl (cI, 5, .inl kd)), (afa, .inl (cI, 5, .inl fa)), (ahd, .inl (cI, 5, .inl hd)), (bk, .inr (0, [.ref alt, .ref abd, .ref aeg, .ref abr, .ref ask, .ref ash, .ref ast, .int (nI sn), .int yr])), (alt, .inl (cI, 5, .inl lt)), (abd, .inl (cI, 5, .inl bd)), (aeg, .inl (cI, 5, .inl eg))] sz) := by
  refine Met.ofW (cc := cX1_pass) (maxL := 7) (ret := none) (by decide) rfl ?_
  intro p e s m args below meth c s₁ B hml hv
  obtain ⟨rfl, hsz, hP, hD0, hE⟩ := hv
  have hx := B.exec
  have hb := B.bytes
  have hr := B.returns
  have hts := atoms_spec (ws := wsX1_pass) B.pre
  have hown : s.vm.findClass RX1 = some m.cls := findClass_of_methodNamed B.named
  have hlocks := B.notSynchronized
  subst hsz
  have hD := hD0.self (sz := s.heap.size)
  generalize hAe : va_A [(rn, .inr (1, [.ref aceg, .int cbk, .long csd])), (aceg, .inl (cI, 5, .inl ceg)), (co, .inr (2, [.ref akd, .ref afa, .ref ahd, .int (nI K), .int (nI Hn)])), (akd, .inl (cI, 5, .inl kd)), (afa, .inl (cI, 5, .inl fa)), (ahd, .inl (cI, 5, .inl hd)), (bk, .inr (0, [.ref alt, .ref abd, .ref aeg, .ref abr, .ref ask, .ref ash, .ref ast, .int (nI sn), .int yr])), (alt, .inl (cI, 5, .inl lt)), (abd, .inl (cI, 5, .inl bd)), (aeg, .inl (cI, 5, .inl eg))] s.heap.size = A at hD ⊢
  have hA : ∀ q : Nat, s.heap.size ≤ q → A q := fun q h => by rw [← hAe]; exact Or.inr h
  have hS : va_S A s.heap s.heap [] := va_S.rf
  have hP : va_P D vwCl [(rn, .inr (1, [.ref aceg, .int cbk, .long csd])), (aceg, .inl (cI, 5, .inl ceg)), (co, .inr (2, [.ref akd, .ref afa, .ref ahd, .int (nI K), .int (nI Hn)])), (akd, .inl (cI, 5, .inl kd)), (afa, .inl (cI, 5, .inl fa)), (ahd, .inl (cI, 5, .inl hd)), (bk, .inr (0, [.ref alt, .ref abd, .ref aeg, .ref abr, .ref ask, .ref ash, .ref ast, .int (nI sn), .int yr])), (alt, .inl (cI, 5, .inl lt)), (abd, .inl (cI, 5, .inl bd)), (aeg, .inl (cI, 5, .inl eg))] s.heap := hP
  have hD : va_D A [(rn, .inr (1, [.ref aceg, .int cbk, .long csd])), (aceg, .inl (cI, 5, .inl ceg)), (co, .inr (2, [.ref akd, .ref afa, .ref ahd, .int (nI K), .int (nI Hn)])), (akd, .inl (cI, 5, .inl kd)), (afa, .inl (cI, 5, .inl fa)), (ahd, .inl (cI, 5, .inl hd)), (bk, .inr (0, [.ref alt, .ref abd, .ref aeg, .ref abr, .ref ask, .ref ash, .ref ast, .int (nI sn), .int yr])), (alt, .inl (cI, 5, .inl lt)), (abd, .inl (cI, 5, .inl bd)), (aeg, .inl (cI, 5, .inl eg))] := hD
  have hl := lv_entry ([.ref rn, .ref co, .ref bk, .int (nI my), .int seed]) (n := 7) (Nat.le_of_ble_eq_true rfl)
  rw [lg_entry_eq]
  generalize (lg_sl ([.ref rn, .ref co, .ref bk, .int (nI my), .int seed]) ++ List.replicate (7 - (lg_sl ([.ref rn, .ref co, .ref bk, .int (nI my), .int seed])).length) Slot.unset).toArray = ls at hl ⊢
  have hl : lv_has ls 7 [(0, .ref rn), (1, .ref co), (2, .ref bk), (3, .int (nI my)), (4, .int seed)] := hl
  have hinX0 : ∀ w ∈ wsX00, w ∈ wsX1_pass := fun w h => List.mem_cons_of_mem _ (List.mem_append_left _ (List.mem_append_left _ (List.mem_append_right _ h)))
  have hinX1 : ∀ w ∈ wsX10, w ∈ wsX1_pass := fun w h => List.mem_cons_of_mem _ (List.mem_append_left _ (List.mem_append_right _ h))
  have hinX2 : ∀ w ∈ wsX20, w ∈ wsX1_pass := fun w h => List.mem_cons_of_mem _ (List.mem_append_right _ h)
  have k_0 := hts (.fieldLink RX1 15 "VowDoves$Book" "eggs" "[I") (by decide +kernel)
  have k_1 := hts (.fieldLink RX1 9 "VowDoves$Centuries" "eggs" "[I") (by decide +kernel)
  have k_2 := hts (.methodLink RX1 18 arraycopyName) (by decide +kernel)
  have k_3 := hts (.native arraycopyName) (by decide +kernel)
  have k_4 := hts (.static arraycopyName) (by decide +kernel)
  have k_5 := hts (.initialized "java/lang/System") (by decide +kernel)
  have k_6 := hts (.fieldLink RX1 24 "VowDoves$Centuries" "broken" "I") (by decide +kernel)
  have k_7 := hts (.fieldLink RX1 28 "VowDoves$Centuries" "seed" "J") (by decide +kernel)
  have k_8 := hts (.fieldLink RX1 32 "VowDoves$Cote" "holes" "I") (by decide +kernel)
  have k_9 := hts (.fieldLink RX1 37 "VowDoves$Book" "birds" "[I") (by decide +kernel)
  have k_10 := hts (.fieldLink RX1 40 "VowDoves$Book" "letTo" "[I") (by decide +kernel)
  refine lv_aload_n hx hb dX1_pass_0 rfl (lv_at hl 2 rfl) ?_
  refine va_get (D := D) (ci := 0) (v := .ref aeg) (C := RX0) (T := TX0) (N := 9) hx hb hts hinX0 hown hE.1 hP 6 rfl rfl 2 (by decide) k_0 (fun _ h9 => h9) rfl dX1_pass_1 ?_
  refine lv_iconst (v := 0) hx hb dX1_pass_4 (by decide) ?_
  refine lv_aload_n hx hb dX1_pass_5 rfl (lv_at hl 0 rfl) ?_
  refine va_get (D := D) (ci := 1) (v := .ref aceg) (C := RX1) (T := TX1) (N := 3) hx hb hts hinX1 hown hE.1 hP 0 rfl rfl 0 (by decide) k_1 (fun _ h9 => h9) rfl dX1_pass_6 ?_
  refine lv_iconst (v := 0) hx hb dX1_pass_9 (by decide) ?_
  refine lv_iconst (v := 5) hx hb dX1_pass_10 (by decide) ?_
  refine va_copyi (rest := []) hx hb (by rw [hml]; exact hl.1.symm) hown k_2 k_3 k_4 k_5 hE.1 hP hD hS 9 1 0 0 rfl rfl rfl rfl (ty := .int) rfl (by decide) (by decide) (by decide) (by decide) (by decide) (fun _ _ => rfl) (Nat.le_of_ble_eq_true rfl) (by decide) dX1_pass_11 (fun H locs hP hD hS => ?_)
  have hP : va_P D vwCl [(rn, .inr (1, [.ref aceg, .int cbk, .long csd])), (aceg, .inl (cI, 5, .inl (va_cpy eg ceg 0 0 5))), (co, .inr (2, [.ref akd, .ref afa, .ref ahd, .int (nI K), .int (nI Hn)])), (akd, .inl (cI, 5, .inl kd)), (afa, .inl (cI, 5, .inl fa)), (ahd, .inl (cI, 5, .inl hd)), (bk, .inr (0, [.ref alt, .ref abd, .ref aeg, .ref abr, .ref ask, .ref ash, .ref ast, .int (nI sn), .int yr])), (alt, .inl (cI, 5, .inl lt)), (abd, .inl (cI, 5, .inl bd)), (aeg, .inl (cI, 5, .inl eg))] H := hP
  have hD : va_D A [(rn, .inr (1, [.ref aceg, .int cbk, .long csd])), (aceg, .inl (cI, 5, .inl (va_cpy eg ceg 0 0 5))), (co, .inr (2, [.ref akd, .ref afa, .ref ahd, .int (nI K), .int (nI Hn)])), (akd, .inl (cI, 5, .inl kd)), (afa, .inl (cI, 5, .inl fa)), (ahd, .inl (cI, 5, .inl hd)), (bk, .inr (0, [.ref alt, .ref abd, .ref aeg, .ref abr, .ref ask, .ref ash, .ref ast, .int (nI sn), .int yr])), (alt, .inl (cI, 5, .inl lt)), (abd, .inl (cI, 5, .inl bd)), (aeg, .inl (cI, 5, .inl eg))] := hD
  have hP := z_Pext hP 1 rfl (g := eg) (fun j hj => zcpy hj)
  have hD := hD.set (p := 1) (e := .inl (cI, 5, .inl eg)) rfl
  have hP : va_P D vwCl [(rn, .inr (1, [.ref aceg, .int cbk, .long csd])), (aceg, .inl (cI, 5, .inl eg)), (co, .inr (2, [.ref akd, .ref afa, .ref ahd, .int (nI K), .int (nI Hn)])), (akd, .inl (cI, 5, .inl kd)), (afa, .inl (cI, 5, .inl fa)), (ahd, .inl (cI, 5, .inl hd)), (bk, .inr (0, [.ref alt, .ref abd, .ref aeg, .ref abr, .ref ask, .ref ash, .ref ast, .int (nI sn), .int yr])), (alt, .inl (cI, 5, .inl lt)), (abd, .inl (cI, 5, .inl bd)), (aeg, .inl (cI, 5, .inl eg))] _ := hP
  have hD : va_D A [(rn, .inr (1, [.ref aceg, .int cbk, .long csd])), (aceg, .inl (cI, 5, .inl eg)), (co, .inr (2, [.ref akd, .ref afa, .ref ahd, .int (nI K), .int (nI Hn)])), (akd, .inl (cI, 5, .inl kd)), (afa, .inl (cI, 5, .inl fa)), (ahd, .inl (cI, 5, .inl hd)), (bk, .inr (0, [.ref alt, .ref abd, .ref aeg, .ref abr, .ref ask, .ref ash, .ref ast, .int (nI sn), .int yr])), (alt, .inl (cI, 5, .inl lt)), (abd, .inl (cI, 5, .inl bd)), (aeg, .inl (cI, 5, .inl eg))] := hD
  refine lv_aload_n hx hb dX1_pass_14 rfl (lv_at hl 0 rfl) ?_
  refine lv_iconst (v := 0) hx hb dX1_pass_15 (by decide) ?_
  refine va_put (D := D) (ci := 1) (v := .int 0) (ty := .int) (C := RX1) (T := TX1) (N := 3) hx hb hts hinX1 tyX1 tyX1_ok nmX1 hown hE.1 hP hD hS 0 rfl rfl 1 (by decide) k_6 (fun _ h9 => h9) rfl (by decide +kernel) rfl rfl (Nat.le_of_ble_eq_true rfl) dX1_pass_16 (fun H locs hP hD hS => ?_)
  have hP : va_P D vwCl [(rn, .inr (1, [.ref aceg, .int 0, .long csd])), (aceg, .inl (cI, 5, .inl eg)), (co, .inr (2, [.ref akd, .ref afa, .ref ahd, .int (nI K), .int (nI Hn)])), (akd, .inl (cI, 5, .inl kd)), (afa, .inl (cI, 5, .inl fa)), (ahd, .inl (cI, 5, .inl hd)), (bk, .inr (0, [.ref alt, .ref abd, .ref aeg, .ref abr, .ref ask, .ref ash, .ref ast, .int (nI sn), .int yr])), (alt, .inl (cI, 5, .inl lt)), (abd, .inl (cI, 5, .inl bd)), (aeg, .inl (cI, 5, .inl eg))] H := hP
  have hD : va_D A [(rn, .inr (1, [.ref aceg, .int 0, .long csd])), (aceg, .inl (cI, 5, .inl eg)), (co, .inr (2, [.ref akd, .ref afa, .ref ahd, .int (nI K), .int (nI Hn)])), (akd, .inl (cI, 5, .inl kd)), (afa, .inl (cI, 5, .inl fa)), (ahd, .inl (cI, 5, .inl hd)), (bk, .inr (0, [.ref alt, .ref abd, .ref aeg, .ref abr, .ref ask, .ref ash, .ref ast, .int (nI sn), .int yr])), (alt, .inl (cI, 5, .inl lt)), (abd, .inl (cI, 5, .inl bd)), (aeg, .inl (cI, 5, .inl eg))] := hD
  refine lv_aload_n hx hb dX1_pass_19 rfl (lv_at hl 0 rfl) ?_
  refine lv_iload hx hb dX1_pass_20 (lv_at hl 4 rfl) ?_
  refine lv_i2l (v := (seed : Int32).toInt64) hx hb dX1_pass_22 rfl ?_
  refine va_put (D := D) (ci := 1) (v := .long ((seed : Int32).toInt64)) (ty := .long) (C := RX1) (T := TX1) (N := 3) hx hb hts hinX1 tyX1 tyX1_ok nmX1 hown hE.1 hP hD hS 0 rfl rfl 2 (by decide) k_7 (fun _ h9 => h9) rfl (by decide +kernel) rfl rfl (Nat.le_of_ble_eq_true rfl) dX1_pass_23 (fun H locs hP hD hS => ?_)
  have hP : va_P D vwCl [(rn, .inr (1, [.ref aceg, .int 0, .long ((seed : Int32).toInt64)])), (aceg, .inl (cI, 5, .inl eg)), (co, .inr (2, [.ref akd, .ref afa, .ref ahd, .int (nI K), .int (nI Hn)])), (akd, .inl (cI, 5, .inl kd)), (afa, .inl (cI, 5, .inl fa)), (ahd, .inl (cI, 5, .inl hd)), (bk, .inr (0, [.ref alt, .ref abd, .ref aeg, .ref abr, .ref ask, .ref ash, .ref ast, .int (nI sn), .int yr])), (alt, .inl (cI, 5, .inl lt)), (abd, .inl (cI, 5, .inl bd)), (aeg, .inl (cI, 5, .inl eg))] H := hP
  have hD : va_D A [(rn, .inr (1, [.ref aceg, .int 0, .long ((seed : Int32).toInt64)])), (aceg, .inl (cI, 5, .inl eg)), (co, .inr (2, [.ref akd, .ref afa, .ref ahd, .int (nI K), .int (nI Hn)])), (akd, .inl (cI, 5, .inl kd)), (afa, .inl (cI, 5, .inl fa)), (ahd, .inl (cI, 5, .inl hd)), (bk, .inr (0, [.ref alt, .ref abd, .ref aeg, .ref abr, .ref ask, .ref ash, .ref ast, .int (nI sn), .int yr])), (alt, .inl (cI, 5, .inl lt)), (abd, .inl (cI, 5, .inl bd)), (aeg, .inl (cI, 5, .inl eg))] := hD
  refine lv_iconst (v := 0) hx hb dX1_pass_26 (by decide) ?_
  refine lv_istore (lv' := [(5, .int 0), (0, .ref rn), (1, .ref co), (2, .ref bk), (3, .int (nI my)), (4, .int seed)]) hx hb dX1_pass_27 hl (by decide) rfl (fun ls hl => ?_)
  have hc29_1 : ∀ (n : Nat) (y : Nat), (y ≤ my) → (my + 1 ≤ y + n) → ∀ (w5 : Int32), w5 = nI y → ∀ (ws : Int64), ws = (pY K Hn kd fa hd lt bd (seed.toInt64, 0, eg) y).1 → ∀ (wb : Int32), wb = (pY K Hn kd fa hd lt bd (seed.toInt64, 0, eg) y).2.1 → ∀ (we : Nat → Int32), we = (pY K Hn kd fa hd lt bd (seed.toInt64, 0, eg) y).2.2 → ∀ (H : Heap) (locs : List Loc), va_P D vwCl [(rn, .inr (1, [.ref aceg, .int wb, .long ws])), (aceg, .inl (cI, 5, .inl we)), (co, .inr (2, [.ref akd, .ref afa, .ref ahd, .int (nI K), .int (nI Hn)])), (akd, .inl (cI, 5, .inl kd)), (afa, .inl (cI, 5, .inl fa)), (ahd, .inl (cI, 5, .inl hd)), (bk, .inr (0, [.ref alt, .ref abd, .ref aeg, .ref abr, .ref ask, .ref ash, .ref ast, .int (nI sn), .int yr])), (alt, .inl (cI, 5, .inl lt)), (abd, .inl (cI, 5, .inl bd)), (aeg, .inl (cI, 5, .inl eg))] H → va_D A [(rn, .inr (1, [.ref aceg, .int wb, .long ws])), (aceg, .inl (cI, 5, .inl we)), (co, .inr (2, [.ref akd, .ref afa, .ref ahd, .int (nI K), .int (nI Hn)])), (akd, .inl (cI, 5, .inl kd)), (afa, .inl (cI, 5, .inl fa)), (ahd, .inl (cI, 5, .inl hd)), (bk, .inr (0, [.ref alt, .ref abd, .ref aeg, .ref abr, .ref ask, .ref ash, .ref ast, .int (nI sn), .int yr])), (alt, .inl (cI, 5, .inl lt)), (abd, .inl (cI, 5, .inl bd)), (aeg, .inl (cI, 5, .inl eg))] → va_S A s.heap H locs → ∀ (ls : Array Slot), lv_has ls 7 [(5, .int w5), (0, .ref rn), (1, .ref co), (2, .ref bk), (3, .int (nI my)), (4, .int seed)] → W p l e (headSpec wsX1_pass (zr 5)).room s m ([.ref rn, .ref co, .ref bk, .int (nI my), .int seed] : List Value).toArray below meth c H locs 0 0 (MQ below (va_Qv (fun (_ : Unit) => True) (zB D [(rn, .inr (1, [.ref aceg, .int ((pY K Hn kd fa hd lt bd (seed.toInt64, 0, eg) my).2.1), .long ((pY K Hn kd fa hd lt bd (seed.toInt64, 0, eg) my).1)])), (aceg, .inl (cI, 5, .inl ((pY K Hn kd fa hd lt bd (seed.toInt64, 0, eg) my).2.2))), (co, .inr (2, [.ref akd, .ref afa, .ref ahd, .int (nI K), .int (nI Hn)])), (akd, .inl (cI, 5, .inl kd)), (afa, .inl (cI, 5, .inl fa)), (ahd, .inl (cI, 5, .inl hd)), (bk, .inr (0, [.ref alt, .ref abd, .ref aeg, .ref abr, .ref ask, .ref ash, .ref ast, .int (nI sn), .int yr])), (alt, .inl (cI, 5, .inl lt)), (abd, .inl (cI, 5, .inl bd)), (aeg, .inl (cI, 5, .inl eg))] A) A) ([.ref rn, .ref co, .ref bk, .int (nI my), .int seed] : List Value).toArray s 0 0 A) (F0 m 29 ls []) := by
    intro n
    induction n with
    | zero => intro y hy hfu; exact absurd hfu (by omega)
    | succ n ihhc29_1 =>
      intro y hy hfu w5 ew5 ws ews wb ewb we ewe H locs hP hD hS ls hl
      subst ew5
      subst ews
      subst ewb
      subst ewe
      refine lv_iload hx hb dX1_pass_29 (lv_at hl 0 rfl) ?_
      refine lv_iload_n hx hb dX1_pass_31 rfl (lv_at hl 4 rfl) ?_
      refine lv_icmp_ge (tgt := 84) hx hb dX1_pass_32 (by decide) (fun c_32 => ?_) (fun c_32 => ?_)
      · have n_32 := zn_le (a := my) (b := y) rfl rfl c_32 (by omega) (by omega)
        obtain rfl : my = y := by omega
        have e9 : (pY K Hn kd fa hd lt bd (seed.toInt64, 0, eg) my) = ((pY K Hn kd fa hd lt bd (seed.toInt64, 0, eg) my).1, (pY K Hn kd fa hd lt bd (seed.toInt64, 0, eg) my).2.1, (pY K Hn kd fa hd lt bd (seed.toInt64, 0, eg) my).2.2) := rfl
        have hP9 := hP.sub (ws' := [(rn, .inr (1, [.ref aceg, .int ((pY K Hn kd fa hd lt bd (seed.toInt64, 0, eg) my).2.1), .long ((pY K Hn kd fa hd lt bd (seed.toInt64, 0, eg) my).1)])), (aceg, .inl (cI, 5, .inl ((pY K Hn kd fa hd lt bd (seed.toInt64, 0, eg) my).2.2))), (co, .inr (2, [.ref akd, .ref afa, .ref ahd, .int (nI K), .int (nI Hn)])), (akd, .inl (cI, 5, .inl kd)), (afa, .inl (cI, 5, .inl fa)), (ahd, .inl (cI, 5, .inl hd)), (bk, .inr (0, [.ref alt, .ref abd, .ref aeg, .ref abr, .ref ask, .ref ash, .ref ast, .int (nI sn), .int yr])), (alt, .inl (cI, 5, .inl lt)), (abd, .inl (cI, 5, .inl bd)), (aeg, .inl (cI, 5, .inl eg))]) [0, 1, 2, 3, 4, 5, 6, 7, 8, 9] (by rw [e9]; try rfl)
        have hD9 := hD.sub (ws' := [(rn, .inr (1, [.ref aceg, .int ((pY K Hn kd fa hd lt bd (seed.toInt64, 0, eg) my).2.1), .long ((pY K Hn kd fa hd lt bd (seed.toInt64, 0, eg) my).1)])), (aceg, .inl (cI, 5, .inl ((pY K Hn kd fa hd lt bd (seed.toInt64, 0, eg) my).2.2))), (co, .inr (2, [.ref akd, .ref afa, .ref ahd, .int (nI K), .int (nI Hn)])), (akd, .inl (cI, 5, .inl kd)), (afa, .inl (cI, 5, .inl fa)), (ahd, .inl (cI, 5, .inl hd)), (bk, .inr (0, [.ref alt, .ref abd, .ref aeg, .ref abr, .ref ask, .ref ash, .ref ast, .int (nI sn), .int yr])), (alt, .inl (cI, 5, .inl lt)), (abd, .inl (cI, 5, .inl bd)), (aeg, .inl (cI, 5, .inl eg))]) [0, 1, 2, 3, 4, 5, 6, 7, 8, 9] (by decide) (by rw [e9]; try rfl)
        exact W.vret hx hb hr (fun t ht hW => ⟨⟨(), rfl, trivial, by rw [ht]; exact hP9, hD9⟩, hS.F ht⟩) hS.2.2 dX1_pass_84
      · have n_32 := zn_nle (a := my) (b := y) rfl rfl c_32 (by omega) (by omega)
        refine lv_iconst (v := 0) hx hb dX1_pass_35 (by decide) ?_
        refine lv_istore (lv' := [(6, .int 0), (5, .int (nI y)), (0, .ref rn), (1, .ref co), (2, .ref bk), (3, .int (nI my)), (4, .int seed)]) hx hb dX1_pass_36 hl (by decide) rfl (fun ls hl => ?_)
        have hc38_2 : ∀ (n : Nat) (h : Nat), (h ≤ Hn) → (Hn + 1 ≤ h + n) → ∀ (w6 : Int32), w6 = nI h → ∀ (ws : Int64), ws = (pH K kd fa hd lt bd (pY K Hn kd fa hd lt bd (seed.toInt64, 0, eg) y) h).1 → ∀ (wb : Int32), wb = (pH K kd fa hd lt bd (pY K Hn kd fa hd lt bd (seed.toInt64, 0, eg) y) h).2.1 → ∀ (we : Nat → Int32), we = (pH K kd fa hd lt bd (pY K Hn kd fa hd lt bd (seed.toInt64, 0, eg) y) h).2.2 → ∀ (H : Heap) (locs : List Loc), va_P D vwCl [(rn, .inr (1, [.ref aceg, .int wb, .long ws])), (aceg, .inl (cI, 5, .inl we)), (co, .inr (2, [.ref akd, .ref afa, .ref ahd, .int (nI K), .int (nI Hn)])), (akd, .inl (cI, 5, .inl kd)), (afa, .inl (cI, 5, .inl fa)), (ahd, .inl (cI, 5, .inl hd)), (bk, .inr (0, [.ref alt, .ref abd, .ref aeg, .ref abr, .ref ask, .ref ash, .ref ast, .int (nI sn), .int yr])), (alt, .inl (cI, 5, .inl lt)), (abd, .inl (cI, 5, .inl bd)), (aeg, .inl (cI, 5, .inl eg))] H → va_D A [(rn, .inr (1, [.ref aceg, .int wb, .long ws])), (aceg, .inl (cI, 5, .inl we)), (co, .inr (2, [.ref akd, .ref afa, .ref ahd, .int (nI K), .int (nI Hn)])), (akd, .inl (cI, 5, .inl kd)), (afa, .inl (cI, 5, .inl fa)), (ahd, .inl (cI, 5, .inl hd)), (bk, .inr (0, [.ref alt, .ref abd, .ref aeg, .ref abr, .ref ask, .ref ash, .ref ast, .int (nI sn), .int yr])), (alt, .inl (cI, 5, .inl lt)), (abd, .inl (cI, 5, .inl bd)), (aeg, .inl (cI, 5, .inl eg))] → va_S A s.heap H locs → ∀ (ls : Array Slot), lv_has ls 7 [(6, .int w6), (5, .int (nI y)), (0, .ref rn), (1, .ref co), (2, .ref bk), (3, .int (nI my)), (4, .int seed)] → W p l e (headSpec wsX1_pass (zr 5)).room s m ([.ref rn, .ref co, .ref bk, .int (nI my), .int seed] : List Value).toArray below meth c H locs 0 0 (MQ below (va_Qv (fun (_ : Unit) => True) (zB D [(rn, .inr (1, [.ref aceg, .int ((pY K Hn kd fa hd lt bd (seed.toInt64, 0, eg) my).2.1), .long ((pY K Hn kd fa hd lt bd (seed.toInt64, 0, eg) my).1)])), (aceg, .inl (cI, 5, .inl ((pY K Hn kd fa hd lt bd (seed.toInt64, 0, eg) my).2.2))), (co, .inr (2, [.ref akd, .ref afa, .ref ahd, .int (nI K), .int (nI Hn)])), (akd, .inl (cI, 5, .inl kd)), (afa, .inl (cI, 5, .inl fa)), (ahd, .inl (cI, 5, .inl hd)), (bk, .inr (0, [.ref alt, .ref abd, .ref aeg, .ref abr, .ref ask, .ref ash, .ref ast, .int (nI sn), .int yr])), (alt, .inl (cI, 5, .inl lt)), (abd, .inl (cI, 5, .inl bd)), (aeg, .inl (cI, 5, .inl eg))] A) A) ([.ref rn, .ref co, .ref bk, .int (nI my), .int seed] : List Value).toArray s 0 0 A) (F0 m 38 ls []) := by
          intro n
          induction n with
          | zero => intro h hh hfu; exact absurd hfu (by omega)
          | succ n ihhc38_2 =>
            intro h hh hfu w6 ew6 ws ews wb ewb we ewe H locs hP hD hS ls hl
            subst ew6
            subst ews
            subst ewb
            subst ewe
            refine lv_iload hx hb dX1_pass_38 (lv_at hl 0 rfl) ?_
            refine lv_aload_n hx hb dX1_pass_40 rfl (lv_at hl 3 rfl) ?_
            refine va_get (D := D) (ci := 2) (v := .int (nI Hn)) (C := RX2) (T := TX2) (N := 5) hx hb hts hinX2 hown hE.1 hP 2 rfl rfl 4 (by decide) k_8 (fun _ h9 => h9) rfl dX1_pass_41 ?_
            refine lv_icmp_ge (tgt := 78) hx hb dX1_pass_44 (by decide) (fun c_44 => ?_) (fun c_44 => ?_)
            · have n_44 := zn_le (a := Hn) (b := h) rfl rfl c_44 (by omega) (by omega)
              obtain rfl : Hn = h := by omega
              refine lv_iinc (v := nI (y + 1)) (lv' := [(5, .int (nI (y + 1))), (6, .int (nI Hn)), (0, .ref rn), (1, .ref co), (2, .ref bk), (3, .int (nI my)), (4, .int seed)]) hx hb dX1_pass_78 hl (k := 1) rfl (nI_add y 1) (by decide) rfl (fun ls hl => ?_)
              refine lv_goto (tgt := 29) hx hb dX1_pass_81 (by decide) ?_
              exact ihhc29_1 (y + 1) (by omega) (by omega) (nI (y + 1)) rfl ((pH K kd fa hd lt bd (pY K Hn kd fa hd lt bd (seed.toInt64, 0, eg) y) Hn).1) rfl ((pH K kd fa hd lt bd (pY K Hn kd fa hd lt bd (seed.toInt64, 0, eg) y) Hn).2.1) rfl ((pH K kd fa hd lt bd (pY K Hn kd fa hd lt bd (seed.toInt64, 0, eg) y) Hn).2.2) rfl _ _ (hP.sub [0, 1, 2, 3, 4, 5, 6, 7, 8, 9] rfl) (hD.sub [0, 1, 2, 3, 4, 5, 6, 7, 8, 9] (by decide) rfl) hS ls (lv_sub hl [0, 2, 3, 4, 5, 6] rfl)
            · have n_44 := zn_nle (a := Hn) (b := h) rfl rfl c_44 (by omega) (by omega)
              refine lv_aload_n hx hb dX1_pass_47 rfl (lv_at hl 4 rfl) ?_
              refine va_get (D := D) (ci := 0) (v := .ref abd) (C := RX0) (T := TX0) (N := 9) hx hb hts hinX0 hown hE.1 hP 6 rfl rfl 1 (by decide) k_9 (fun _ h9 => h9) rfl dX1_pass_48 ?_
              refine lv_iload hx hb dX1_pass_51 (lv_at hl 0 rfl) ?_
              refine z_iald hx hb hE hP 8 rfl (j := h) rfl (by omega) (by decide) dX1_pass_53 ?_
              refine lv_iconst (v := 1) hx hb dX1_pass_54 (by decide) ?_
              refine lv_icmp_ne (tgt := 72) hx hb dX1_pass_55 (by decide) (fun c_55 => ?_) (fun c_55 => ?_)
              · refine lv_iinc (v := nI (h + 1)) (lv' := [(6, .int (nI (h + 1))), (5, .int (nI y)), (0, .ref rn), (1, .ref co), (2, .ref bk), (3, .int (nI my)), (4, .int seed)]) hx hb dX1_pass_72 hl (k := 0) rfl (nI_add h 1) (by decide) rfl (fun ls hl => ?_)
                refine lv_goto (tgt := 38) hx hb dX1_pass_75 (by decide) ?_
                exact ihhc38_2 (h + 1) (by omega) (by omega) (nI (h + 1)) rfl ((pH K kd fa hd lt bd (pY K Hn kd fa hd lt bd (seed.toInt64, 0, eg) y) h).1) (by rw [pH, if_neg c_55]) ((pH K kd fa hd lt bd (pY K Hn kd fa hd lt bd (seed.toInt64, 0, eg) y) h).2.1) (by rw [pH, if_neg c_55]) ((pH K kd fa hd lt bd (pY K Hn kd fa hd lt bd (seed.toInt64, 0, eg) y) h).2.2) (by rw [pH, if_neg c_55]) _ _ (hP.sub [0, 1, 2, 3, 4, 5, 6, 7, 8, 9] rfl) (hD.sub [0, 1, 2, 3, 4, 5, 6, 7, 8, 9] (by decide) rfl) hS ls (lv_sub hl [0, 1, 2, 3, 4, 5, 6] rfl)
              · refine lv_aload_n hx hb dX1_pass_58 rfl (lv_at hl 2 rfl) ?_
                refine lv_aload_n hx hb dX1_pass_59 rfl (lv_at hl 3 rfl) ?_
                refine lv_iload hx hb dX1_pass_60 (lv_at hl 0 rfl) ?_
                refine lv_aload_n hx hb dX1_pass_62 rfl (lv_at hl 4 rfl) ?_
                refine va_get (D := D) (ci := 0) (v := .ref alt) (C := RX0) (T := TX0) (N := 9) hx hb hts hinX0 hown hE.1 hP 6 rfl rfl 0 (by decide) k_10 (fun _ h9 => h9) rfl dX1_pass_63 ?_
                refine lv_iload hx hb dX1_pass_66 (lv_at hl 0 rfl) ?_
                refine z_iald hx hb hE hP 7 rfl (j := h) rfl (by omega) (by decide) dX1_pass_68 ?_
                refine z_rwVv (As := [.ref co, .int (nI h), .int (lt h)]) (rest := []) (wr := [(bk, .inr (0, [.ref alt, .ref abd, .ref aeg, .ref abr, .ref ask, .ref ash, .ref ast, .int (nI sn), .int yr])), (alt, .inl (cI, 5, .inl lt)), (abd, .inl (cI, 5, .inl bd)), (aeg, .inl (cI, 5, .inl eg))]) (w1 := [(rn, .inr (1, [.ref aceg, .int ((pySt K kd fa hd (lt h) h (((pH K kd fa hd lt bd (pY K Hn kd fa hd lt bd (seed.toInt64, 0, eg) y) h).1), ((pH K kd fa hd lt bd (pY K Hn kd fa hd lt bd (seed.toInt64, 0, eg) y) h).2.1), ((pH K kd fa hd lt bd (pY K Hn kd fa hd lt bd (seed.toInt64, 0, eg) y) h).2.2))).2.1), .long ((pySt K kd fa hd (lt h) h (((pH K kd fa hd lt bd (pY K Hn kd fa hd lt bd (seed.toInt64, 0, eg) y) h).1), ((pH K kd fa hd lt bd (pY K Hn kd fa hd lt bd (seed.toInt64, 0, eg) y) h).2.1), ((pH K kd fa hd lt bd (pY K Hn kd fa hd lt bd (seed.toInt64, 0, eg) y) h).2.2))).1)])), (aceg, .inl (cI, 5, .inl ((pySt K kd fa hd (lt h) h (((pH K kd fa hd lt bd (pY K Hn kd fa hd lt bd (seed.toInt64, 0, eg) y) h).1), ((pH K kd fa hd lt bd (pY K Hn kd fa hd lt bd (seed.toInt64, 0, eg) y) h).2.1), ((pH K kd fa hd lt bd (pY K Hn kd fa hd lt bd (seed.toInt64, 0, eg) y) h).2.2))).2.2))), (co, .inr (2, [.ref akd, .ref afa, .ref ahd, .int (nI K), .int (nI Hn)])), (akd, .inl (cI, 5, .inl kd)), (afa, .inl (cI, 5, .inl fa)), (ahd, .inl (cI, 5, .inl hd))]) ⟨hx, hb, hml, hown, hts⟩ (c_X1_passYear l D cI cZ cA _ rn aceg ((pH K kd fa hd lt bd (pY K Hn kd fa hd lt bd (seed.toInt64, 0, eg) y) h).2.1) ((pH K kd fa hd lt bd (pY K Hn kd fa hd lt bd (seed.toInt64, 0, eg) y) h).1) co akd afa ahd K Hn ((pH K kd fa hd lt bd (pY K Hn kd fa hd lt bd (seed.toInt64, 0, eg) y) h).2.2) kd fa hd h (lt h) (by first | assumption | omega) (by first | assumption | omega)) (cwV 3 hts gX1_pass_X1_passYear rfl rfl rfl (by decide +kernel) ⟨Nat.le_of_ble_eq_true rfl, Nat.le_of_ble_eq_true rfl⟩) hE hP hD hS hA [0, 1, 2, 3, 4, 5] [6, 7, 8, 9] rfl rfl rfl (by decide) (by decide) (by decide) 0 1 rfl rfl rfl hl.1 rfl (Nat.le_of_ble_eq_true rfl) dX1_pass_69 ⟨Nat.zero_le _, Nat.zero_le _⟩ (fun H locs hP hD hS => ?_)
                have hP : va_P D vwCl [(bk, .inr (0, [.ref alt, .ref abd, .ref aeg, .ref abr, .ref ask, .ref ash, .ref ast, .int (nI sn), .int yr])), (alt, .inl (cI, 5, .inl lt)), (abd, .inl (cI, 5, .inl bd)), (aeg, .inl (cI, 5, .inl eg)), (rn, .inr (1, [.ref aceg, .int ((pySt K kd fa hd (lt h) h (((pH K kd fa hd lt bd (pY K Hn kd fa hd lt bd (seed.toInt64, 0, eg) y) h).1), ((pH K kd fa hd lt bd (pY K Hn kd fa hd lt bd (seed.toInt64, 0, eg) y) h).2.1), ((pH K kd fa hd lt bd (pY K Hn kd fa hd lt bd (seed.toInt64, 0, eg) y) h).2.2))).2.1), .long ((pySt K kd fa hd (lt h) h (((pH K kd fa hd lt bd (pY K Hn kd fa hd lt bd (seed.toInt64, 0, eg) y) h).1), ((pH K kd fa hd lt bd (pY K Hn kd fa hd lt bd (seed.toInt64, 0, eg) y) h).2.1), ((pH K kd fa hd lt bd (pY K Hn kd fa hd lt bd (seed.toInt64, 0, eg) y) h).2.2))).1)])), (aceg, .inl (cI, 5, .inl ((pySt K kd fa hd (lt h) h (((pH K kd fa hd lt bd (pY K Hn kd fa hd lt bd (seed.toInt64, 0, eg) y) h).1), ((pH K kd fa hd lt bd (pY K Hn kd fa hd lt bd (seed.toInt64, 0, eg) y) h).2.1), ((pH K kd fa hd lt bd (pY K Hn kd fa hd lt bd (seed.toInt64, 0, eg) y) h).2.2))).2.2))), (co, .inr (2, [.ref akd, .ref afa, .ref ahd, .int (nI K), .int (nI Hn)])), (akd, .inl (cI, 5, .inl kd)), (afa, .inl (cI, 5, .inl fa)), (ahd, .inl (cI, 5, .inl hd))] H := hP
                have hD : va_D A [(bk, .inr (0, [.ref alt, .ref abd, .ref aeg, .ref abr, .ref ask, .ref ash, .ref ast, .int (nI sn), .int yr])), (alt, .inl (cI, 5, .inl lt)), (abd, .inl (cI, 5, .inl bd)), (aeg, .inl (cI, 5, .inl eg)), (rn, .inr (1, [.ref aceg, .int ((pySt K kd fa hd (lt h) h (((pH K kd fa hd lt bd (pY K Hn kd fa hd lt bd (seed.toInt64, 0, eg) y) h).1), ((pH K kd fa hd lt bd (pY K Hn kd fa hd lt bd (seed.toInt64, 0, eg) y) h).2.1), ((pH K kd fa hd lt bd (pY K Hn kd fa hd lt bd (seed.toInt64, 0, eg) y) h).2.2))).2.1), .long ((pySt K kd fa hd (lt h) h (((pH K kd fa hd lt bd (pY K Hn kd fa hd lt bd (seed.toInt64, 0, eg) y) h).1), ((pH K kd fa hd lt bd (pY K Hn kd fa hd lt bd (seed.toInt64, 0, eg) y) h).2.1), ((pH K kd fa hd lt bd (pY K Hn kd fa hd lt bd (seed.toInt64, 0, eg) y) h).2.2))).1)])), (aceg, .inl (cI, 5, .inl ((pySt K kd fa hd (lt h) h (((pH K kd fa hd lt bd (pY K Hn kd fa hd lt bd (seed.toInt64, 0, eg) y) h).1), ((pH K kd fa hd lt bd (pY K Hn kd fa hd lt bd (seed.toInt64, 0, eg) y) h).2.1), ((pH K kd fa hd lt bd (pY K Hn kd fa hd lt bd (seed.toInt64, 0, eg) y) h).2.2))).2.2))), (co, .inr (2, [.ref akd, .ref afa, .ref ahd, .int (nI K), .int (nI Hn)])), (akd, .inl (cI, 5, .inl kd)), (afa, .inl (cI, 5, .inl fa)), (ahd, .inl (cI, 5, .inl hd))] := hD
                refine lv_iinc (v := nI (h + 1)) (lv' := [(6, .int (nI (h + 1))), (5, .int (nI y)), (0, .ref rn), (1, .ref co), (2, .ref bk), (3, .int (nI my)), (4, .int seed)]) hx hb dX1_pass_72 hl (k := 0) rfl (nI_add h 1) (by decide) rfl (fun ls hl => ?_)
                refine lv_goto (tgt := 38) hx hb dX1_pass_75 (by decide) ?_
                exact ihhc38_2 (h + 1) (by omega) (by omega) (nI (h + 1)) rfl ((pySt K kd fa hd (lt h) h (((pH K kd fa hd lt bd (pY K Hn kd fa hd lt bd (seed.toInt64, 0, eg) y) h).1), ((pH K kd fa hd lt bd (pY K Hn kd fa hd lt bd (seed.toInt64, 0, eg) y) h).2.1), ((pH K kd fa hd lt bd (pY K Hn kd fa hd lt bd (seed.toInt64, 0, eg) y) h).2.2))).1) (by rw [pH, if_pos c_55]) ((pySt K kd fa hd (lt h) h (((pH K kd fa hd lt bd (pY K Hn kd fa hd lt bd (seed.toInt64, 0, eg) y) h).1), ((pH K kd fa hd lt bd (pY K Hn kd fa hd lt bd (seed.toInt64, 0, eg) y) h).2.1), ((pH K kd fa hd lt bd (pY K Hn kd fa hd lt bd (seed.toInt64, 0, eg) y) h).2.2))).2.1) (by rw [pH, if_pos c_55]) ((pySt K kd fa hd (lt h) h (((pH K kd fa hd lt bd (pY K Hn kd fa hd lt bd (seed.toInt64, 0, eg) y) h).1), ((pH K kd fa hd lt bd (pY K Hn kd fa hd lt bd (seed.toInt64, 0, eg) y) h).2.1), ((pH K kd fa hd lt bd (pY K Hn kd fa hd lt bd (seed.toInt64, 0, eg) y) h).2.2))).2.2) (by rw [pH, if_pos c_55]) _ _ (hP.sub [4, 5, 6, 7, 8, 9, 0, 1, 2, 3] rfl) (hD.sub [4, 5, 6, 7, 8, 9, 0, 1, 2, 3] (by decide) rfl) hS ls (lv_sub hl [0, 1, 2, 3, 4, 5, 6] rfl)
        exact hc38_2 (Hn + 1) 0 (by omega) (by omega) 0 rfl ((pY K Hn kd fa hd lt bd (seed.toInt64, 0, eg) y).1) rfl ((pY K Hn kd fa hd lt bd (seed.toInt64, 0, eg) y).2.1) rfl ((pY K Hn kd fa hd lt bd (seed.toInt64, 0, eg) y).2.2) rfl _ _ (hP.sub [0, 1, 2, 3, 4, 5, 6, 7, 8, 9] rfl) (hD.sub [0, 1, 2, 3, 4, 5, 6, 7, 8, 9] (by decide) rfl) hS ls (lv_sub hl [0, 1, 2, 3, 4, 5, 6] rfl)
  exact hc29_1 (my + 1) 0 (by omega) (by omega) 0 rfl ((seed : Int32).toInt64) rfl 0 rfl eg rfl _ _ (hP.sub [0, 1, 2, 3, 4, 5, 6, 7, 8, 9] rfl) (hD.sub [0, 1, 2, 3, 4, 5, 6, 7, 8, 9] (by decide) rfl) hS ls (lv_sub hl [0, 1, 2, 3, 4, 5] rfl)

set_option maxHeartbeats 1000000 in
set_option maxRecDepth 100000 in
theorem c_X1_allEggs (l : Launch) (D : va_G) (cI cZ cA : ClassId) (rn : Nat) (aceg : Nat) (cbk : Int32) (csd : Int64) (ceg : Nat → Int32)  : Met l yX1_allEggs wsX1_allEggs (zr 2) (va_Pc [.ref rn] (zPr D cI cZ cA [(rn, .inr (1, [.ref aceg, .int cbk, .long csd])), (aceg, .inl (cI, 5, .inl ceg))])) (vp_Si (fun r => r = sumN ceg 5)) 0 0 (fun _ => False) := by
  refine Met.ofW (cc := cX1_allEggs) (maxL := 1) (ret := (some .int)) (by decide) rfl ?_
  intro p e s m args below meth c s₁ B hml hv
  obtain ⟨rfl, hP, hE⟩ := hv
  have hx := B.exec
  have hb := B.bytes
  have hr := B.returns
  have hts := atoms_spec (ws := wsX1_allEggs) B.pre
  have hown : s.vm.findClass RX1 = some m.cls := findClass_of_methodNamed B.named
  have hlocks := B.notSynchronized
  have hP : va_P D vwCl [(rn, .inr (1, [.ref aceg, .int cbk, .long csd])), (aceg, .inl (cI, 5, .inl ceg))] s.heap := hP
  have hl := lv_entry ([.ref rn]) (n := 1) (Nat.le_of_ble_eq_true rfl)
  rw [lg_entry_eq]
  generalize (lg_sl ([.ref rn]) ++ List.replicate (1 - (lg_sl ([.ref rn])).length) Slot.unset).toArray = ls at hl ⊢
  have hl : lv_has ls 1 [(0, .ref rn)] := hl
  have hinX1 : ∀ w ∈ wsX10, w ∈ wsX1_allEggs := fun w h => List.mem_cons_of_mem _ (List.mem_append_right _ h)
  have k_0 := hts (.fieldLink RX1 9 "VowDoves$Centuries" "eggs" "[I") (by decide +kernel)
  have k_1 := hts (.initialized RX5) (by decide +kernel)
  have k_2 := hts (.static yX5_sum) (by decide +kernel)
  refine lv_aload_n hx hb dX1_allEggs_0 rfl (lv_at hl 0 rfl) ?_
  refine va_get (D := D) (ci := 1) (v := .ref aceg) (C := RX1) (T := TX1) (N := 3) hx hb hts hinX1 hown hE.1 hP 0 rfl rfl 0 (by decide) k_0 (fun _ h9 => h9) rfl dX1_allEggs_1 ?_
  refine z_roNi (As := [.ref aceg]) (rest := []) ⟨hx, hb, hml, hown, hts⟩ (c_X5_sum l D cI cZ cA aceg ceg ) ⟨va_cnB 1 hts ggX1_allEggs_X5_sum rfl rfl rfl hE.2.2.2.2.2.2.2 k_1 (by decide +kernel) ⟨Nat.le_of_ble_eq_true rfl, Nat.le_of_ble_eq_true rfl⟩, k_2, trivial⟩ hE hP [1] rfl rfl hl.1 rfl (Nat.le_of_ble_eq_true rfl) dX1_allEggs_4 ⟨Nat.zero_le _, Nat.zero_le _⟩ ?_
  exact W.iret (v := (sumN ceg 5)) hx hb hr (fun t ht hW => ⟨(sumN ceg 5), rfl, rfl, ht⟩) (fun q h => by cases h) dX1_allEggs_7

set_option maxHeartbeats 1000000 in
set_option maxRecDepth 100000 in
theorem c_X5_likelihood (l : Launch) (D : va_G) (cI cZ cA : ClassId) (vd : Nat) (pg : Nat) (co : Nat) (bk : Nat) (kb : Nat) (mt : Nat) (rn : Nat) (im : Int32) (tr : Int32) (akd : Nat) (afa : Nat) (ahd : Nat) (K : Nat) (Hn : Nat) (alt : Nat) (abd : Nat) (aeg : Nat) (abr : Nat) (ask : Nat) (ash : Nat) (ast : Nat) (sn : Nat) (yr : Int32) (kd : Nat → Int32) (sk : Nat → Int32) (sh : Nat → Int32) (st : Nat → Int32) (k : Nat) (fa0 : Int32) (hk : k < 5) (hS8 : sn ≤ 8) : Met l yX5_likelihood wsX5_likelihood (zr 3) (va_Pc [.ref vd, .int (nI k), .int fa0] (zPr D cI cZ cA [(vd, .inr (5, [.ref pg, .ref co, .ref bk, .ref kb, .ref mt, .ref rn, .int im, .int tr])), (co, .inr (2, [.ref akd, .ref afa, .ref ahd, .int (nI K), .int (nI Hn)])), (akd, .inl (cI, 5, .inl kd)), (bk, .inr (0, [.ref alt, .ref abd, .ref aeg, .ref abr, .ref ask, .ref ash, .ref ast, .int (nI sn), .int yr])), (ask, .inl (cI, 8, .inl sk)), (ash, .inl (cI, 8, .inl sh)), (ast, .inl (cZ, 8, .inl st))])) (vp_Sl (fun r => r = chN kd sk sh st k fa0 sn)) 0 0 (fun _ => False) := by
  refine Met.ofW (cc := cX5_likelihood) (maxL := 7) (ret := (some .long)) (by decide) rfl ?_
  intro p e s m args below meth c s₁ B hml hv
  obtain ⟨rfl, hP, hE⟩ := hv
  have hx := B.exec
  have hb := B.bytes
  have hr := B.returns
  have hts := atoms_spec (ws := wsX5_likelihood) B.pre
  have hown : s.vm.findClass RX5 = some m.cls := findClass_of_methodNamed B.named
  have hlocks := B.notSynchronized
  have hP : va_P D vwCl [(vd, .inr (5, [.ref pg, .ref co, .ref bk, .ref kb, .ref mt, .ref rn, .int im, .int tr])), (co, .inr (2, [.ref akd, .ref afa, .ref ahd, .int (nI K), .int (nI Hn)])), (akd, .inl (cI, 5, .inl kd)), (bk, .inr (0, [.ref alt, .ref abd, .ref aeg, .ref abr, .ref ask, .ref ash, .ref ast, .int (nI sn), .int yr])), (ask, .inl (cI, 8, .inl sk)), (ash, .inl (cI, 8, .inl sh)), (ast, .inl (cZ, 8, .inl st))] s.heap := hP
  have hl := lv_entry ([.ref vd, .int (nI k), .int fa0]) (n := 7) (Nat.le_of_ble_eq_true rfl)
  rw [lg_entry_eq]
  generalize (lg_sl ([.ref vd, .int (nI k), .int fa0]) ++ List.replicate (7 - (lg_sl ([.ref vd, .int (nI k), .int fa0])).length) Slot.unset).toArray = ls at hl ⊢
  have hl : lv_has ls 7 [(0, .ref vd), (1, .int (nI k)), (2, .int fa0)] := hl
  have hinX0 : ∀ w ∈ wsX00, w ∈ wsX5_likelihood := fun w h => List.mem_cons_of_mem _ (List.mem_append_left _ (List.mem_append_right _ h))
  have hinX2 : ∀ w ∈ wsX20, w ∈ wsX5_likelihood := fun w h => List.mem_cons_of_mem _ (List.mem_append_right _ h)
  have hinX5 : ∀ w ∈ wsX50, w ∈ wsX5_likelihood := fun w h => List.mem_cons_of_mem _ (List.mem_append_left _ (List.mem_append_left _ (List.mem_append_right _ h)))
  have k_0 := hts (.fieldLink RX5 26 "VowDoves" "book" "LVowDoves$Book;") (by decide +kernel)
  have k_1 := hts (.fieldLink RX5 170 "VowDoves$Book" "seen" "I") (by decide +kernel)
  have k_2 := hts (.fieldLink RX5 173 "VowDoves$Book" "seenKeepers" "[I") (by decide +kernel)
  have k_3 := hts (.fieldLink RX5 19 "VowDoves" "cote" "LVowDoves$Cote;") (by decide +kernel)
  have k_4 := hts (.fieldLink RX5 84 "VowDoves$Cote" "kinds" "[I") (by decide +kernel)
  have k_5 := hts (.fieldLink RX5 176 "VowDoves$Book" "seenHards" "[I") (by decide +kernel)
  have k_6 := hts (.fieldLink RX5 179 "VowDoves$Book" "seenKept" "[Z") (by decide +kernel)
  refine lv_lconst (v := 1) hx hb dX5_likelihood_0 (by decide) ?_
  refine lv_lstore_n (lv' := [(3, .long 1), (0, .ref vd), (1, .int (nI k)), (2, .int fa0)]) hx hb dX5_likelihood_1 rfl hl (by decide) rfl (fun ls hl => ?_)
  refine lv_iconst (v := 0) hx hb dX5_likelihood_2 (by decide) ?_
  refine lv_istore (lv' := [(5, .int 0), (3, .long 1), (0, .ref vd), (1, .int (nI k)), (2, .int fa0)]) hx hb dX5_likelihood_3 hl (by decide) rfl (fun ls hl => ?_)
  have hc5_1 : ∀ (n : Nat) (i : Nat), (i ≤ sn) → (sn + 1 ≤ i + n) → ∀ (w2 : Int64), w2 = chN kd sk sh st k fa0 i → ∀ (w3 : Int32), w3 = nI i → ∀ (ls : Array Slot), lv_has ls 7 [(5, .int w3), (3, .long w2), (0, .ref vd), (1, .int (nI k)), (2, .int fa0)] → W p l e (headSpec wsX5_likelihood (zr 3)).room s m ([.ref vd, .int (nI k), .int fa0] : List Value).toArray below meth c s.heap [] 0 0 (MQ below (vp_Sl (fun r => r = chN kd sk sh st k fa0 sn)) ([.ref vd, .int (nI k), .int fa0] : List Value).toArray s 0 0 (fun _ => False)) (F0 m 5 ls []) := by
    intro n
    induction n with
    | zero => intro i hi hfu; exact absurd hfu (by omega)
    | succ n ihhc5_1 =>
      intro i hi hfu w2 ew2 w3 ew3 ls hl
      subst ew2
      subst ew3
      refine lv_iload hx hb dX5_likelihood_5 (lv_at hl 0 rfl) ?_
      refine lv_aload_n hx hb dX5_likelihood_7 rfl (lv_at hl 2 rfl) ?_
      refine va_get (D := D) (ci := 5) (v := .ref bk) (C := RX5) (T := TX5) (N := 8) hx hb hts hinX5 hown hE.1 hP 0 rfl rfl 2 (by decide) k_0 (fun _ h9 => h9) rfl dX5_likelihood_8 ?_
      refine va_get (D := D) (ci := 0) (v := .int (nI sn)) (C := RX0) (T := TX0) (N := 9) hx hb hts hinX0 hown hE.1 hP 3 rfl rfl 7 (by decide) k_1 (fun _ h9 => h9) rfl dX5_likelihood_11 ?_
      refine lv_icmp_ge (tgt := 90) hx hb dX5_likelihood_14 (by decide) (fun c_14 => ?_) (fun c_14 => ?_)
      · have n_14 := zn_le (a := sn) (b := i) rfl rfl c_14 (by omega) (by omega)
        obtain rfl : sn = i := by omega
        refine lv_lload_n hx hb dX5_likelihood_90 rfl (lv_at hl 1 rfl) ?_
        exact W.lret (v := chN kd sk sh st k fa0 sn) hx hb hr (fun t ht hW => ⟨(chN kd sk sh st k fa0 sn), rfl, rfl, ht⟩) (fun q h => by cases h) dX5_likelihood_91
      · have n_14 := zn_nle (a := sn) (b := i) rfl rfl c_14 (by omega) (by omega)
        refine lv_aload_n hx hb dX5_likelihood_17 rfl (lv_at hl 2 rfl) ?_
        refine va_get (D := D) (ci := 5) (v := .ref bk) (C := RX5) (T := TX5) (N := 8) hx hb hts hinX5 hown hE.1 hP 0 rfl rfl 2 (by decide) k_0 (fun _ h9 => h9) rfl dX5_likelihood_18 ?_
        refine va_get (D := D) (ci := 0) (v := .ref ask) (C := RX0) (T := TX0) (N := 9) hx hb hts hinX0 hown hE.1 hP 3 rfl rfl 4 (by decide) k_2 (fun _ h9 => h9) rfl dX5_likelihood_21 ?_
        refine lv_iload hx hb dX5_likelihood_24 (lv_at hl 0 rfl) ?_
        refine z_iald hx hb hE hP 4 rfl (j := i) rfl (by omega) (by decide) dX5_likelihood_26 ?_
        refine lv_iload_n hx hb dX5_likelihood_27 rfl (lv_at hl 3 rfl) ?_
        refine lv_icmp_ne (tgt := 84) hx hb dX5_likelihood_28 (by decide) (fun c_28 => ?_) (fun c_28 => ?_)
        · refine lv_iinc (v := nI (i + 1)) (lv' := [(5, .int (nI (i + 1))), (3, .long (chN kd sk sh st k fa0 i)), (0, .ref vd), (1, .int (nI k)), (2, .int fa0)]) hx hb dX5_likelihood_84 hl (k := 0) rfl (nI_add i 1) (by decide) rfl (fun ls hl => ?_)
          refine lv_goto (tgt := 5) hx hb dX5_likelihood_87 (by decide) ?_
          exact ihhc5_1 (i + 1) (by omega) (by omega) (chN kd sk sh st k fa0 i) (by rw [chN, if_neg c_28]) (nI (i + 1)) rfl ls (lv_sub hl [0, 1, 2, 3, 4] rfl)
        · refine lv_aload_n hx hb dX5_likelihood_31 rfl (lv_at hl 2 rfl) ?_
          refine va_get (D := D) (ci := 5) (v := .ref co) (C := RX5) (T := TX5) (N := 8) hx hb hts hinX5 hown hE.1 hP 0 rfl rfl 1 (by decide) k_3 (fun _ h9 => h9) rfl dX5_likelihood_32 ?_
          refine va_get (D := D) (ci := 2) (v := .ref akd) (C := RX2) (T := TX2) (N := 5) hx hb hts hinX2 hown hE.1 hP 1 rfl rfl 0 (by decide) k_4 (fun _ h9 => h9) rfl dX5_likelihood_35 ?_
          refine lv_iload_n hx hb dX5_likelihood_38 rfl (lv_at hl 3 rfl) ?_
          refine z_iald hx hb hE hP 2 rfl (j := k) rfl (by omega) (by decide) dX5_likelihood_39 ?_
          refine lv_iload_n hx hb dX5_likelihood_40 rfl (lv_at hl 4 rfl) ?_
          refine lv_aload_n hx hb dX5_likelihood_41 rfl (lv_at hl 2 rfl) ?_
          refine va_get (D := D) (ci := 5) (v := .ref bk) (C := RX5) (T := TX5) (N := 8) hx hb hts hinX5 hown hE.1 hP 0 rfl rfl 2 (by decide) k_0 (fun _ h9 => h9) rfl dX5_likelihood_42 ?_
          refine va_get (D := D) (ci := 0) (v := .ref ash) (C := RX0) (T := TX0) (N := 9) hx hb hts hinX0 hown hE.1 hP 3 rfl rfl 5 (by decide) k_5 (fun _ h9 => h9) rfl dX5_likelihood_45 ?_
          refine lv_iload hx hb dX5_likelihood_48 (lv_at hl 0 rfl) ?_
          refine z_iald hx hb hE hP 5 rfl (j := i) rfl (by omega) (by decide) dX5_likelihood_50 ?_
          refine z_roSi (As := [.int (kd k), .int fa0, .int (sh i)]) (rest := []) ⟨hx, hb, hml, hown, hts⟩ (c_X5_yearsKeptBy l D cI cZ cA (kd k) fa0 (sh i) ) (va_cwS 3 hts gX5_likelihood_X5_yearsKeptBy rfl rfl rfl (by decide +kernel) ⟨Nat.le_of_ble_eq_true rfl, Nat.le_of_ble_eq_true rfl⟩) hE hP [] rfl rfl hl.1 rfl (Nat.le_of_ble_eq_true rfl) dX5_likelihood_51 ⟨Nat.zero_le _, Nat.zero_le _⟩ ?_
          refine lv_istore (lv' := [(6, .int (yk (kd k) fa0 (sh i))), (5, .int (nI i)), (3, .long (chN kd sk sh st k fa0 i)), (0, .ref vd), (1, .int (nI k)), (2, .int fa0)]) hx hb dX5_likelihood_54 hl (by decide) rfl (fun ls hl => ?_)
          refine lv_lload_n hx hb dX5_likelihood_56 rfl (lv_at hl 2 rfl) ?_
          refine lv_aload_n hx hb dX5_likelihood_57 rfl (lv_at hl 3 rfl) ?_
          refine va_get (D := D) (ci := 5) (v := .ref bk) (C := RX5) (T := TX5) (N := 8) hx hb hts hinX5 hown hE.1 hP 0 rfl rfl 2 (by decide) k_0 (fun _ h9 => h9) rfl dX5_likelihood_58 ?_
          refine va_get (D := D) (ci := 0) (v := .ref ast) (C := RX0) (T := TX0) (N := 9) hx hb hts hinX0 hown hE.1 hP 3 rfl rfl 6 (by decide) k_6 (fun _ h9 => h9) rfl dX5_likelihood_61 ?_
          refine lv_iload hx hb dX5_likelihood_64 (lv_at hl 1 rfl) ?_
          refine z_zald hx hb hE hP 6 rfl (j := i) rfl (by omega) (by decide) dX5_likelihood_66 ?_
          refine lv_if_eq (tgt := 76) hx hb dX5_likelihood_67 (by decide) (fun c_67 => ?_) (fun c_67 => ?_)
          · refine lv_bipush (v := 10) hx hb dX5_likelihood_76 (by decide) ?_
            refine lv_iload hx hb dX5_likelihood_78 (lv_at hl 0 rfl) ?_
            refine lv_isub hx hb dX5_likelihood_80 ?_
            refine lv_i2l (v := (10 - (yk (kd k) fa0 (sh i)) : Int32).toInt64) hx hb dX5_likelihood_81 rfl ?_
            refine lv_lmul hx hb dX5_likelihood_82 ?_
            refine lv_lstore_n (lv' := [(3, .long ((chN kd sk sh st k fa0 i) * ((10 - (yk (kd k) fa0 (sh i)) : Int32).toInt64))), (6, .int (yk (kd k) fa0 (sh i))), (5, .int (nI i)), (0, .ref vd), (1, .int (nI k)), (2, .int fa0)]) hx hb dX5_likelihood_83 rfl hl (by decide) rfl (fun ls hl => ?_)
            refine lv_iinc (v := nI (i + 1)) (lv' := [(5, .int (nI (i + 1))), (3, .long ((chN kd sk sh st k fa0 i) * ((10 - (yk (kd k) fa0 (sh i)) : Int32).toInt64))), (6, .int (yk (kd k) fa0 (sh i))), (0, .ref vd), (1, .int (nI k)), (2, .int fa0)]) hx hb dX5_likelihood_84 hl (k := 2) rfl (nI_add i 1) (by decide) rfl (fun ls hl => ?_)
            refine lv_goto (tgt := 5) hx hb dX5_likelihood_87 (by decide) ?_
            exact ihhc5_1 (i + 1) (by omega) (by omega) ((chN kd sk sh st k fa0 i) * ((10 - (yk (kd k) fa0 (sh i)) : Int32).toInt64)) (by rw [chN, if_pos c_28, if_pos c_67]) (nI (i + 1)) rfl ls (lv_sub hl [0, 1, 3, 4, 5] rfl)
          · refine lv_iload hx hb dX5_likelihood_70 (lv_at hl 0 rfl) ?_
            refine lv_i2l (v := ((yk (kd k) fa0 (sh i)) : Int32).toInt64) hx hb dX5_likelihood_72 rfl ?_
            refine lv_goto (tgt := 82) hx hb dX5_likelihood_73 (by decide) ?_
            refine lv_lmul hx hb dX5_likelihood_82 ?_
            refine lv_lstore_n (lv' := [(3, .long ((chN kd sk sh st k fa0 i) * (((yk (kd k) fa0 (sh i)) : Int32).toInt64))), (6, .int (yk (kd k) fa0 (sh i))), (5, .int (nI i)), (0, .ref vd), (1, .int (nI k)), (2, .int fa0)]) hx hb dX5_likelihood_83 rfl hl (by decide) rfl (fun ls hl => ?_)
            refine lv_iinc (v := nI (i + 1)) (lv' := [(5, .int (nI (i + 1))), (3, .long ((chN kd sk sh st k fa0 i) * (((yk (kd k) fa0 (sh i)) : Int32).toInt64))), (6, .int (yk (kd k) fa0 (sh i))), (0, .ref vd), (1, .int (nI k)), (2, .int fa0)]) hx hb dX5_likelihood_84 hl (k := 2) rfl (nI_add i 1) (by decide) rfl (fun ls hl => ?_)
            refine lv_goto (tgt := 5) hx hb dX5_likelihood_87 (by decide) ?_
            exact ihhc5_1 (i + 1) (by omega) (by omega) ((chN kd sk sh st k fa0 i) * (((yk (kd k) fa0 (sh i)) : Int32).toInt64)) (by rw [chN, if_pos c_28, if_neg c_67]) (nI (i + 1)) rfl ls (lv_sub hl [0, 1, 3, 4, 5] rfl)
  exact hc5_1 (sn + 1) 0 (by omega) (by omega) 1 rfl 0 rfl ls (lv_sub hl [0, 1, 2, 3, 4] rfl)

set_option maxHeartbeats 1000000 in
set_option maxRecDepth 100000 in
theorem c_X5_possibleFaiths (l : Launch) (D : va_G) (cI cZ cA : ClassId) (vd : Nat) (pg : Nat) (co : Nat) (bk : Nat) (kb : Nat) (mt : Nat) (rn : Nat) (im : Int32) (tr : Int32) (akd : Nat) (afa : Nat) (ahd : Nat) (K : Nat) (Hn : Nat) (alt : Nat) (abd : Nat) (aeg : Nat) (abr : Nat) (ask : Nat) (ash : Nat) (ast : Nat) (sn : Nat) (yr : Int32) (kd : Nat → Int32) (sk : Nat → Int32) (sh : Nat → Int32) (st : Nat → Int32) (k : Nat) (hk : k < 5) (hS8 : sn ≤ 8) : Met l yX5_possibleFaiths wsX5_possibleFaiths (zr 4) (va_Pc [.ref vd, .int (nI k)] (zPr D cI cZ cA [(vd, .inr (5, [.ref pg, .ref co, .ref bk, .ref kb, .ref mt, .ref rn, .int im, .int tr])), (co, .inr (2, [.ref akd, .ref afa, .ref ahd, .int (nI K), .int (nI Hn)])), (akd, .inl (cI, 5, .inl kd)), (bk, .inr (0, [.ref alt, .ref abd, .ref aeg, .ref abr, .ref ask, .ref ash, .ref ast, .int (nI sn), .int yr])), (ask, .inl (cI, 8, .inl sk)), (ash, .inl (cI, 8, .inl sh)), (ast, .inl (cZ, 8, .inl st))])) (vp_Si (fun r => r = pfN (fun z9 => chN kd sk sh st k (nI z9) sn) 10)) 0 0 (fun _ => False) := by
  refine Met.ofW (cc := cX5_possibleFaiths) (maxL := 4) (ret := (some .int)) (by decide) rfl ?_
  intro p e s m args below meth c s₁ B hml hv
  obtain ⟨rfl, hP, hE⟩ := hv
  have hx := B.exec
  have hb := B.bytes
  have hr := B.returns
  have hts := atoms_spec (ws := wsX5_possibleFaiths) B.pre
  have hown : s.vm.findClass RX5 = some m.cls := findClass_of_methodNamed B.named
  have hlocks := B.notSynchronized
  have hP : va_P D vwCl [(vd, .inr (5, [.ref pg, .ref co, .ref bk, .ref kb, .ref mt, .ref rn, .int im, .int tr])), (co, .inr (2, [.ref akd, .ref afa, .ref ahd, .int (nI K), .int (nI Hn)])), (akd, .inl (cI, 5, .inl kd)), (bk, .inr (0, [.ref alt, .ref abd, .ref aeg, .ref abr, .ref ask, .ref ash, .ref ast, .int (nI sn), .int yr])), (ask, .inl (cI, 8, .inl sk)), (ash, .inl (cI, 8, .inl sh)), (ast, .inl (cZ, 8, .inl st))] s.heap := hP
  have hl := lv_entry ([.ref vd, .int (nI k)]) (n := 4) (Nat.le_of_ble_eq_true rfl)
  rw [lg_entry_eq]
  generalize (lg_sl ([.ref vd, .int (nI k)]) ++ List.replicate (4 - (lg_sl ([.ref vd, .int (nI k)])).length) Slot.unset).toArray = ls at hl ⊢
  have hl : lv_has ls 4 [(0, .ref vd), (1, .int (nI k))] := hl
  refine lv_iconst (v := 0) hx hb dX5_possibleFaiths_0 (by decide) ?_
  refine lv_istore_n (lv' := [(2, .int 0), (0, .ref vd), (1, .int (nI k))]) hx hb dX5_possibleFaiths_1 rfl hl (by decide) rfl (fun ls hl => ?_)
  refine lv_iconst (v := 0) hx hb dX5_possibleFaiths_2 (by decide) ?_
  refine lv_istore_n (lv' := [(3, .int 0), (2, .int 0), (0, .ref vd), (1, .int (nI k))]) hx hb dX5_possibleFaiths_3 rfl hl (by decide) rfl (fun ls hl => ?_)
  have hc4_1 : ∀ (n : Nat) (i : Nat), (i ≤ 10) → (10 + 1 ≤ i + n) → ∀ (w2 : Int32), w2 = pfN (fun z9 => chN kd sk sh st k (nI z9) sn) i → ∀ (w3 : Int32), w3 = nI i → ∀ (ls : Array Slot), lv_has ls 4 [(3, .int w3), (2, .int w2), (0, .ref vd), (1, .int (nI k))] → W p l e (headSpec wsX5_possibleFaiths (zr 4)).room s m ([.ref vd, .int (nI k)] : List Value).toArray below meth c s.heap [] 0 0 (MQ below (vp_Si (fun r => r = pfN (fun z9 => chN kd sk sh st k (nI z9) sn) 10)) ([.ref vd, .int (nI k)] : List Value).toArray s 0 0 (fun _ => False)) (F0 m 4 ls []) := by
    intro n
    induction n with
    | zero => intro i hi hfu; exact absurd hfu (by omega)
    | succ n ihhc4_1 =>
      intro i hi hfu w2 ew2 w3 ew3 ls hl
      subst ew2
      subst ew3
      refine lv_iload_n hx hb dX5_possibleFaiths_4 rfl (lv_at hl 0 rfl) ?_
      refine lv_bipush (v := 9) hx hb dX5_possibleFaiths_5 (by decide) ?_
      refine lv_icmp_gt (tgt := 33) hx hb dX5_possibleFaiths_7 (by decide) (fun c_7 => ?_) (fun c_7 => ?_)
      · have n_7 := zn_lt (a := 9) (b := i) rfl rfl c_7 (by omega) (by omega)
        obtain rfl : 10 = i := by omega
        refine lv_iload_n hx hb dX5_possibleFaiths_33 rfl (lv_at hl 1 rfl) ?_
        exact W.iret (v := pfN (fun z9 => chN kd sk sh st k (nI z9) sn) 10) hx hb hr (fun t ht hW => ⟨(pfN (fun z9 => chN kd sk sh st k (nI z9) sn) 10), rfl, rfl, ht⟩) (fun q h => by cases h) dX5_possibleFaiths_34
      · have n_7 := zn_nlt (a := 9) (b := i) rfl rfl c_7 (by omega) (by omega)
        refine lv_aload_n hx hb dX5_possibleFaiths_10 rfl (lv_at hl 2 rfl) ?_
        refine lv_iload_n hx hb dX5_possibleFaiths_11 rfl (lv_at hl 3 rfl) ?_
        refine lv_iload_n hx hb dX5_possibleFaiths_12 rfl (lv_at hl 0 rfl) ?_
        refine z_roVl (As := [.int (nI k), .int (nI i)]) (rest := []) ⟨hx, hb, hml, hown, hts⟩ (c_X5_likelihood l D cI cZ cA vd pg co bk kb mt rn im tr akd afa ahd K Hn alt abd aeg abr ask ash ast sn yr kd sk sh st k (nI i) (by first | assumption | omega) (by first | assumption | omega)) (cwV 2 hts gX5_possibleFaiths_X5_likelihood rfl rfl rfl (by decide +kernel) ⟨Nat.le_of_ble_eq_true rfl, Nat.le_of_ble_eq_true rfl⟩) hE hP [0, 1, 2, 3, 4, 5, 6] rfl 0 5 rfl rfl rfl hl.1 rfl (Nat.le_of_ble_eq_true rfl) dX5_possibleFaiths_13 ⟨Nat.zero_le _, Nat.zero_le _⟩ ?_
        refine lv_lconst (v := 0) hx hb dX5_possibleFaiths_16 (by decide) ?_
        refine W.lcmp hx hb dX5_possibleFaiths_17 ?_
        refine lv_if_le (tgt := 27) hx hb dX5_possibleFaiths_18 (by decide) (fun c_18 => ?_) (fun c_18 => ?_)
        · have c_18 := zl_le c_18
          refine lv_iinc (v := nI (i + 1)) (lv' := [(3, .int (nI (i + 1))), (2, .int (pfN (fun z9 => chN kd sk sh st k (nI z9) sn) i)), (0, .ref vd), (1, .int (nI k))]) hx hb dX5_possibleFaiths_27 hl (k := 0) rfl (nI_add i 1) (by decide) rfl (fun ls hl => ?_)
          refine lv_goto (tgt := 4) hx hb dX5_possibleFaiths_30 (by decide) ?_
          exact ihhc4_1 (i + 1) (by omega) (by omega) (pfN (fun z9 => chN kd sk sh st k (nI z9) sn) i) (by simp only [pfN]; first | rw [if_pos c_18] | rw [if_neg c_18]) (nI (i + 1)) rfl ls (lv_sub hl [0, 1, 2, 3] rfl)
        · have c_18 := Int64.not_le.mpr (zl_nle c_18)
          refine lv_iload_n hx hb dX5_possibleFaiths_21 rfl (lv_at hl 1 rfl) ?_
          refine lv_iconst (v := 1) hx hb dX5_possibleFaiths_22 (by decide) ?_
          refine lv_iload_n hx hb dX5_possibleFaiths_23 rfl (lv_at hl 0 rfl) ?_
          refine lv_ishl hx hb dX5_possibleFaiths_24 ?_
          refine lv_ior hx hb dX5_possibleFaiths_25 ?_
          refine lv_istore_n (lv' := [(2, .int ((pfN (fun z9 => chN kd sk sh st k (nI z9) sn) i) ||| (1 <<< ((nI i) &&& 31)))), (3, .int (nI i)), (0, .ref vd), (1, .int (nI k))]) hx hb dX5_possibleFaiths_26 rfl hl (by decide) rfl (fun ls hl => ?_)
          refine lv_iinc (v := nI (i + 1)) (lv' := [(3, .int (nI (i + 1))), (2, .int ((pfN (fun z9 => chN kd sk sh st k (nI z9) sn) i) ||| (1 <<< ((nI i) &&& 31)))), (0, .ref vd), (1, .int (nI k))]) hx hb dX5_possibleFaiths_27 hl (k := 1) rfl (nI_add i 1) (by decide) rfl (fun ls hl => ?_)
          refine lv_goto (tgt := 4) hx hb dX5_possibleFaiths_30 (by decide) ?_
          exact ihhc4_1 (i + 1) (by omega) (by omega) ((pfN (fun z9 => chN kd sk sh st k (nI z9) sn) i) ||| (1 <<< ((nI i) &&& 31))) (by simp only [pfN]; first | rw [if_pos c_18] | rw [if_neg c_18]) (nI (i + 1)) rfl ls (lv_sub hl [0, 1, 2, 3] rfl)
  exact hc4_1 (10 + 1) 0 (by omega) (by omega) 0 rfl 0 rfl ls (lv_sub hl [0, 1, 2, 3] rfl)

set_option maxHeartbeats 1000000 in
set_option maxRecDepth 100000 in
theorem c_X5_likelyFaith (l : Launch) (D : va_G) (cI cZ cA : ClassId) (vd : Nat) (pg : Nat) (co : Nat) (bk : Nat) (kb : Nat) (mt : Nat) (rn : Nat) (im : Int32) (tr : Int32) (akd : Nat) (afa : Nat) (ahd : Nat) (K : Nat) (Hn : Nat) (alt : Nat) (abd : Nat) (aeg : Nat) (abr : Nat) (ask : Nat) (ash : Nat) (ast : Nat) (sn : Nat) (yr : Int32) (kd : Nat → Int32) (sk : Nat → Int32) (sh : Nat → Int32) (st : Nat → Int32) (k : Nat) (hk : k < 5) (hS8 : sn ≤ 8) : Met l yX5_likelyFaith wsX5_likelyFaith (zr 4) (va_Pc [.ref vd, .int (nI k)] (zPr D cI cZ cA [(vd, .inr (5, [.ref pg, .ref co, .ref bk, .ref kb, .ref mt, .ref rn, .int im, .int tr])), (co, .inr (2, [.ref akd, .ref afa, .ref ahd, .int (nI K), .int (nI Hn)])), (akd, .inl (cI, 5, .inl kd)), (bk, .inr (0, [.ref alt, .ref abd, .ref aeg, .ref abr, .ref ask, .ref ash, .ref ast, .int (nI sn), .int yr])), (ask, .inl (cI, 8, .inl sk)), (ash, .inl (cI, 8, .inl sh)), (ast, .inl (cZ, 8, .inl st))])) (vp_Si (fun r => r = likN (fun z9 => chN kd sk sh st k (nI z9) sn) 10)) 0 0 (fun _ => False) := by
  refine Met.ofW (cc := cX5_likelyFaith) (maxL := 8) (ret := (some .int)) (by decide) rfl ?_
  intro p e s m args below meth c s₁ B hml hv
  obtain ⟨rfl, hP, hE⟩ := hv
  have hx := B.exec
  have hb := B.bytes
  have hr := B.returns
  have hts := atoms_spec (ws := wsX5_likelyFaith) B.pre
  have hown : s.vm.findClass RX5 = some m.cls := findClass_of_methodNamed B.named
  have hlocks := B.notSynchronized
  have hP : va_P D vwCl [(vd, .inr (5, [.ref pg, .ref co, .ref bk, .ref kb, .ref mt, .ref rn, .int im, .int tr])), (co, .inr (2, [.ref akd, .ref afa, .ref ahd, .int (nI K), .int (nI Hn)])), (akd, .inl (cI, 5, .inl kd)), (bk, .inr (0, [.ref alt, .ref abd, .ref aeg, .ref abr, .ref ask, .ref ash, .ref ast, .int (nI sn), .int yr])), (ask, .inl (cI, 8, .inl sk)), (ash, .inl (cI, 8, .inl sh)), (ast, .inl (cZ, 8, .inl st))] s.heap := hP
  have hl := lv_entry ([.ref vd, .int (nI k)]) (n := 8) (Nat.le_of_ble_eq_true rfl)
  rw [lg_entry_eq]
  generalize (lg_sl ([.ref vd, .int (nI k)]) ++ List.replicate (8 - (lg_sl ([.ref vd, .int (nI k)])).length) Slot.unset).toArray = ls at hl ⊢
  have hl : lv_has ls 8 [(0, .ref vd), (1, .int (nI k))] := hl
  refine lv_iconst (v := (-1)) hx hb dX5_likelyFaith_0 (by decide) ?_
  refine lv_istore_n (lv' := [(2, .int (-1)), (0, .ref vd), (1, .int (nI k))]) hx hb dX5_likelyFaith_1 rfl hl (by decide) rfl (fun ls hl => ?_)
  refine lv_lconst (v := 0) hx hb dX5_likelyFaith_2 (by decide) ?_
  refine lv_lstore_n (lv' := [(3, .long 0), (2, .int (-1)), (0, .ref vd), (1, .int (nI k))]) hx hb dX5_likelyFaith_3 rfl hl (by decide) rfl (fun ls hl => ?_)
  refine lv_iconst (v := 0) hx hb dX5_likelyFaith_4 (by decide) ?_
  refine lv_istore (lv' := [(5, .int 0), (3, .long 0), (2, .int (-1)), (0, .ref vd), (1, .int (nI k))]) hx hb dX5_likelyFaith_5 hl (by decide) rfl (fun ls hl => ?_)
  have hc7_1 : ∀ (n : Nat) (i : Nat), (i ≤ 10) → (10 + 1 ≤ i + n) → ∀ (w2 : Int32), w2 = likN (fun z9 => chN kd sk sh st k (nI z9) sn) i → ∀ (w4 : Int64), w4 = likM (fun z9 => chN kd sk sh st k (nI z9) sn) i → ∀ (w3 : Int32), w3 = nI i → ∀ (ls : Array Slot), lv_has ls 8 [(5, .int w3), (3, .long w4), (2, .int w2), (0, .ref vd), (1, .int (nI k))] → W p l e (headSpec wsX5_likelyFaith (zr 4)).room s m ([.ref vd, .int (nI k)] : List Value).toArray below meth c s.heap [] 0 0 (MQ below (vp_Si (fun r => r = likN (fun z9 => chN kd sk sh st k (nI z9) sn) 10)) ([.ref vd, .int (nI k)] : List Value).toArray s 0 0 (fun _ => False)) (F0 m 7 ls []) := by
    intro n
    induction n with
    | zero => intro i hi hfu; exact absurd hfu (by omega)
    | succ n ihhc7_1 =>
      intro i hi hfu w2 ew2 w4 ew4 w3 ew3 ls hl
      subst ew2
      subst ew4
      subst ew3
      refine lv_iload hx hb dX5_likelyFaith_7 (lv_at hl 0 rfl) ?_
      refine lv_bipush (v := 9) hx hb dX5_likelyFaith_9 (by decide) ?_
      refine lv_icmp_gt (tgt := 42) hx hb dX5_likelyFaith_11 (by decide) (fun c_11 => ?_) (fun c_11 => ?_)
      · have n_11 := zn_lt (a := 9) (b := i) rfl rfl c_11 (by omega) (by omega)
        obtain rfl : 10 = i := by omega
        refine lv_iload_n hx hb dX5_likelyFaith_42 rfl (lv_at hl 2 rfl) ?_
        exact W.iret (v := likN (fun z9 => chN kd sk sh st k (nI z9) sn) 10) hx hb hr (fun t ht hW => ⟨(likN (fun z9 => chN kd sk sh st k (nI z9) sn) 10), rfl, rfl, ht⟩) (fun q h => by cases h) dX5_likelyFaith_43
      · have n_11 := zn_nlt (a := 9) (b := i) rfl rfl c_11 (by omega) (by omega)
        refine lv_aload_n hx hb dX5_likelyFaith_14 rfl (lv_at hl 3 rfl) ?_
        refine lv_iload_n hx hb dX5_likelyFaith_15 rfl (lv_at hl 4 rfl) ?_
        refine lv_iload hx hb dX5_likelyFaith_16 (lv_at hl 0 rfl) ?_
        refine z_roVl (As := [.int (nI k), .int (nI i)]) (rest := []) ⟨hx, hb, hml, hown, hts⟩ (c_X5_likelihood l D cI cZ cA vd pg co bk kb mt rn im tr akd afa ahd K Hn alt abd aeg abr ask ash ast sn yr kd sk sh st k (nI i) (by first | assumption | omega) (by first | assumption | omega)) (cwV 2 hts gX5_likelyFaith_X5_likelihood rfl rfl rfl (by decide +kernel) ⟨Nat.le_of_ble_eq_true rfl, Nat.le_of_ble_eq_true rfl⟩) hE hP [0, 1, 2, 3, 4, 5, 6] rfl 0 5 rfl rfl rfl hl.1 rfl (Nat.le_of_ble_eq_true rfl) dX5_likelyFaith_18 ⟨Nat.zero_le _, Nat.zero_le _⟩ ?_
        refine lv_lstore (lv' := [(6, .long (chN kd sk sh st k (nI i) sn)), (5, .int (nI i)), (3, .long (likM (fun z9 => chN kd sk sh st k (nI z9) sn) i)), (2, .int (likN (fun z9 => chN kd sk sh st k (nI z9) sn) i)), (0, .ref vd), (1, .int (nI k))]) hx hb dX5_likelyFaith_21 hl (by decide) rfl (fun ls hl => ?_)
        refine lv_lload hx hb dX5_likelyFaith_23 (lv_at hl 0 rfl) ?_
        refine lv_lload_n hx hb dX5_likelyFaith_25 rfl (lv_at hl 2 rfl) ?_
        refine W.lcmp hx hb dX5_likelyFaith_26 ?_
        refine lv_if_le (tgt := 36) hx hb dX5_likelyFaith_27 (by decide) (fun c_27 => ?_) (fun c_27 => ?_)
        · have c_27 := zl_le c_27
          refine lv_iinc (v := nI (i + 1)) (lv' := [(5, .int (nI (i + 1))), (6, .long (chN kd sk sh st k (nI i) sn)), (3, .long (likM (fun z9 => chN kd sk sh st k (nI z9) sn) i)), (2, .int (likN (fun z9 => chN kd sk sh st k (nI z9) sn) i)), (0, .ref vd), (1, .int (nI k))]) hx hb dX5_likelyFaith_36 hl (k := 1) rfl (nI_add i 1) (by decide) rfl (fun ls hl => ?_)
          refine lv_goto (tgt := 7) hx hb dX5_likelyFaith_39 (by decide) ?_
          exact ihhc7_1 (i + 1) (by omega) (by omega) (likN (fun z9 => chN kd sk sh st k (nI z9) sn) i) (by simp only [likN]; first | rw [if_pos c_27] | rw [if_neg c_27]) (likM (fun z9 => chN kd sk sh st k (nI z9) sn) i) (by simp only [likM]; first | rw [if_pos c_27] | rw [if_neg c_27]) (nI (i + 1)) rfl ls (lv_sub hl [0, 2, 3, 4, 5] rfl)
        · have c_27 := Int64.not_le.mpr (zl_nle c_27)
          refine lv_lload hx hb dX5_likelyFaith_30 (lv_at hl 0 rfl) ?_
          refine lv_lstore_n (lv' := [(3, .long (chN kd sk sh st k (nI i) sn)), (6, .long (chN kd sk sh st k (nI i) sn)), (5, .int (nI i)), (2, .int (likN (fun z9 => chN kd sk sh st k (nI z9) sn) i)), (0, .ref vd), (1, .int (nI k))]) hx hb dX5_likelyFaith_32 rfl hl (by decide) rfl (fun ls hl => ?_)
          refine lv_iload hx hb dX5_likelyFaith_33 (lv_at hl 2 rfl) ?_
          refine lv_istore_n (lv' := [(2, .int (nI i)), (3, .long (chN kd sk sh st k (nI i) sn)), (6, .long (chN kd sk sh st k (nI i) sn)), (5, .int (nI i)), (0, .ref vd), (1, .int (nI k))]) hx hb dX5_likelyFaith_35 rfl hl (by decide) rfl (fun ls hl => ?_)
          refine lv_iinc (v := nI (i + 1)) (lv' := [(5, .int (nI (i + 1))), (2, .int (nI i)), (3, .long (chN kd sk sh st k (nI i) sn)), (6, .long (chN kd sk sh st k (nI i) sn)), (0, .ref vd), (1, .int (nI k))]) hx hb dX5_likelyFaith_36 hl (k := 3) rfl (nI_add i 1) (by decide) rfl (fun ls hl => ?_)
          refine lv_goto (tgt := 7) hx hb dX5_likelyFaith_39 (by decide) ?_
          exact ihhc7_1 (i + 1) (by omega) (by omega) (nI i) (by simp only [likN]; first | rw [if_pos c_27] | rw [if_neg c_27]) (chN kd sk sh st k (nI i) sn) (by simp only [likM]; first | rw [if_pos c_27] | rw [if_neg c_27]) (nI (i + 1)) rfl ls (lv_sub hl [0, 2, 1, 4, 5] rfl)
  exact hc7_1 (10 + 1) 0 (by omega) (by omega) (-1) rfl 0 rfl 0 rfl ls (lv_sub hl [0, 1, 2, 3, 4] rfl)

set_option maxHeartbeats 1000000 in
set_option maxRecDepth 100000 in
theorem c_X5_letter (l : Launch) (D : va_G) (cI cZ cA : ClassId) (sz : Nat) (vd : Nat) (pg : Nat) (co : Nat) (bk : Nat) (kb : Nat) (mt : Nat) (rn : Nat) (im : Int32) (tr : Int32) (apl : Nat) (P : Nat) (vb : Int32) (pgf : Nat → Int32) (c0 : Int32) (hP22 : P ≤ 22) : Met l yX5_letter wsX5_letter (zr 1) (va_Pc [.ref vd, .int c0] (zPw D cI cZ cA [(vd, .inr (5, [.ref pg, .ref co, .ref bk, .ref kb, .ref mt, .ref rn, .int im, .int tr])), (pg, .inr (4, [.ref apl, .int (nI P), .int vb])), (apl, .inl (cI, 22, .inl pgf))] sz)) (va_Qi (fun (r : Int32) (_ : Unit) => r = (fLet P pgf c0).1) (zB D [(vd, .inr (5, [.ref pg, .ref co, .ref bk, .ref kb, .ref mt, .ref rn, .int im, .int tr])), (pg, .inr (4, [.ref apl, .int (nI ((fLet P pgf c0).2.1)), .int vb])), (apl, .inl (cI, 22, .inl ((fLet P pgf c0).2.2)))] (va_A [(vd, .inr (5, [.ref pg, .ref co, .ref bk, .ref kb, .ref mt, .ref rn, .int im, .int tr])), (pg, .inr (4, [.ref apl, .int (nI P), .int vb])), (apl, .inl (cI, 22, .inl pgf))] sz)) (va_A [(vd, .inr (5, [.ref pg, .ref co, .ref bk, .ref kb, .ref mt, .ref rn, .int im, .int tr])), (pg, .inr (4, [.ref apl, .int (nI P), .int vb])), (apl, .inl (cI, 22, .inl pgf))] sz)) 0 0 (va_A [(vd, .inr (5, [.ref pg, .ref co, .ref bk, .ref kb, .ref mt, .ref rn, .int im, .int tr])), (pg, .inr (4, [.ref apl, .int (nI P), .int vb])), (apl, .inl (cI, 22, .inl pgf))] sz) := by
  refine Met.ofW (cc := cX5_letter) (maxL := 2) (ret := (some .int)) (by decide) rfl ?_
  intro p e s m args below meth c s₁ B hml hv
  obtain ⟨rfl, hsz, hP, hD0, hE⟩ := hv
  have hx := B.exec
  have hb := B.bytes
  have hr := B.returns
  have hts := atoms_spec (ws := wsX5_letter) B.pre
  have hown : s.vm.findClass RX5 = some m.cls := findClass_of_methodNamed B.named
  have hlocks := B.notSynchronized
  subst hsz
  have hD := hD0.self (sz := s.heap.size)
  generalize hAe : va_A [(vd, .inr (5, [.ref pg, .ref co, .ref bk, .ref kb, .ref mt, .ref rn, .int im, .int tr])), (pg, .inr (4, [.ref apl, .int (nI P), .int vb])), (apl, .inl (cI, 22, .inl pgf))] s.heap.size = A at hD ⊢
  have hA : ∀ q : Nat, s.heap.size ≤ q → A q := fun q h => by rw [← hAe]; exact Or.inr h
  have hS : va_S A s.heap s.heap [] := va_S.rf
  have hP : va_P D vwCl [(vd, .inr (5, [.ref pg, .ref co, .ref bk, .ref kb, .ref mt, .ref rn, .int im, .int tr])), (pg, .inr (4, [.ref apl, .int (nI P), .int vb])), (apl, .inl (cI, 22, .inl pgf))] s.heap := hP
  have hD : va_D A [(vd, .inr (5, [.ref pg, .ref co, .ref bk, .ref kb, .ref mt, .ref rn, .int im, .int tr])), (pg, .inr (4, [.ref apl, .int (nI P), .int vb])), (apl, .inl (cI, 22, .inl pgf))] := hD
  have hl := lv_entry ([.ref vd, .int c0]) (n := 2) (Nat.le_of_ble_eq_true rfl)
  rw [lg_entry_eq]
  generalize (lg_sl ([.ref vd, .int c0]) ++ List.replicate (2 - (lg_sl ([.ref vd, .int c0])).length) Slot.unset).toArray = ls at hl ⊢
  have hl : lv_has ls 2 [(0, .ref vd), (1, .int c0)] := hl
  have hinX4 : ∀ w ∈ wsX40, w ∈ wsX5_letter := fun w h => List.mem_cons_of_mem _ (List.mem_append_right _ h)
  have hinX5 : ∀ w ∈ wsX50, w ∈ wsX5_letter := fun w h => List.mem_cons_of_mem _ (List.mem_append_left _ (List.mem_append_right _ h))
  have k_0 := hts (.fieldLink RX5 10 "VowDoves" "page" "LVowDoves$Page;") (by decide +kernel)
  have k_1 := hts (.fieldLink RX5 55 "VowDoves$Page" "size" "I") (by decide +kernel)
  have k_2 := hts (.fieldLink RX5 58 "VowDoves$Page" "letters" "[I") (by decide +kernel)
  refine lv_iload_n hx hb dX5_letter_0 rfl (lv_at hl 1 rfl) ?_
  refine lv_iconst (v := 1) hx hb dX5_letter_1 (by decide) ?_
  refine lv_icmp_lt (tgt := 11) hx hb dX5_letter_2 (by decide) (fun c_2 => ?_) (fun c_2 => ?_)
  · have c_2 := Int32.not_le.mpr c_2
    refine lv_bipush (v := (-102)) hx hb dX5_letter_11 (by decide) ?_
    have e9 : (fLet P pgf c0) = ((-102), P, pgf) := (by unfold fLet; grind)
    have hP9 := hP.sub (ws' := [(vd, .inr (5, [.ref pg, .ref co, .ref bk, .ref kb, .ref mt, .ref rn, .int im, .int tr])), (pg, .inr (4, [.ref apl, .int (nI ((fLet P pgf c0).2.1)), .int vb])), (apl, .inl (cI, 22, .inl ((fLet P pgf c0).2.2)))]) [0, 1, 2] (by rw [e9]; try rfl)
    have hD9 := hD.sub (ws' := [(vd, .inr (5, [.ref pg, .ref co, .ref bk, .ref kb, .ref mt, .ref rn, .int im, .int tr])), (pg, .inr (4, [.ref apl, .int (nI ((fLet P pgf c0).2.1)), .int vb])), (apl, .inl (cI, 22, .inl ((fLet P pgf c0).2.2)))]) [0, 1, 2] (by decide) (by rw [e9]; try rfl)
    exact W.iret (v := (-102)) hx hb hr (fun t ht hW => ⟨⟨(-102), (), rfl, (by rw [e9]; try rfl), by rw [ht]; exact hP9, hD9⟩, hS.F ht⟩) hS.2.2 dX5_letter_13
  · have c_2 := Int32.not_lt.mp c_2
    refine lv_iload_n hx hb dX5_letter_5 rfl (lv_at hl 1 rfl) ?_
    refine lv_bipush (v := 126) hx hb dX5_letter_6 (by decide) ?_
    refine lv_icmp_le (tgt := 14) hx hb dX5_letter_8 (by decide) (fun c_8 => ?_) (fun c_8 => ?_)
    · refine lv_aload_n hx hb dX5_letter_14 rfl (lv_at hl 0 rfl) ?_
      refine va_get (D := D) (ci := 5) (v := .ref pg) (C := RX5) (T := TX5) (N := 8) hx hb hts hinX5 hown hE.1 hP 0 rfl rfl 0 (by decide) k_0 (fun _ h9 => h9) rfl dX5_letter_15 ?_
      refine va_get (D := D) (ci := 4) (v := .int (nI P)) (C := RX4) (T := TX4) (N := 3) hx hb hts hinX4 hown hE.1 hP 1 rfl rfl 1 (by decide) k_1 (fun _ h9 => h9) rfl dX5_letter_18 ?_
      refine lv_bipush (v := 22) hx hb dX5_letter_21 (by decide) ?_
      refine lv_icmp_lt (tgt := 29) hx hb dX5_letter_23 (by decide) (fun c_23 => ?_) (fun c_23 => ?_)
      · have n_23 := zn_lt (a := P) (b := 22) rfl rfl c_23 (by omega) (by omega)
        refine lv_aload_n hx hb dX5_letter_29 rfl (lv_at hl 0 rfl) ?_
        refine va_get (D := D) (ci := 5) (v := .ref pg) (C := RX5) (T := TX5) (N := 8) hx hb hts hinX5 hown hE.1 hP 0 rfl rfl 0 (by decide) k_0 (fun _ h9 => h9) rfl dX5_letter_30 ?_
        refine va_get (D := D) (ci := 4) (v := .ref apl) (C := RX4) (T := TX4) (N := 3) hx hb hts hinX4 hown hE.1 hP 1 rfl rfl 0 (by decide) k_2 (fun _ h9 => h9) rfl dX5_letter_33 ?_
        refine lv_aload_n hx hb dX5_letter_36 rfl (lv_at hl 0 rfl) ?_
        refine va_get (D := D) (ci := 5) (v := .ref pg) (C := RX5) (T := TX5) (N := 8) hx hb hts hinX5 hown hE.1 hP 0 rfl rfl 0 (by decide) k_0 (fun _ h9 => h9) rfl dX5_letter_37 ?_
        refine va_get (D := D) (ci := 4) (v := .int (nI P)) (C := RX4) (T := TX4) (N := 3) hx hb hts hinX4 hown hE.1 hP 1 rfl rfl 1 (by decide) k_1 (fun _ h9 => h9) rfl dX5_letter_40 ?_
        refine lv_iload_n hx hb dX5_letter_43 rfl (lv_at hl 1 rfl) ?_
        refine z_iast hx hb hE hP hD hS 2 rfl (j := P) rfl (by omega) (by decide) dX5_letter_44 (fun H locs hP hD hS => ?_)
        have hP : va_P D vwCl [(vd, .inr (5, [.ref pg, .ref co, .ref bk, .ref kb, .ref mt, .ref rn, .int im, .int tr])), (pg, .inr (4, [.ref apl, .int (nI P), .int vb])), (apl, .inl (cI, 22, .inl (upd pgf P c0)))] H := hP
        have hD : va_D A [(vd, .inr (5, [.ref pg, .ref co, .ref bk, .ref kb, .ref mt, .ref rn, .int im, .int tr])), (pg, .inr (4, [.ref apl, .int (nI P), .int vb])), (apl, .inl (cI, 22, .inl (upd pgf P c0)))] := hD
        refine lv_aload_n hx hb dX5_letter_45 rfl (lv_at hl 0 rfl) ?_
        refine va_get (D := D) (ci := 5) (v := .ref pg) (C := RX5) (T := TX5) (N := 8) hx hb hts hinX5 hown hE.1 hP 0 rfl rfl 0 (by decide) k_0 (fun _ h9 => h9) rfl dX5_letter_46 ?_
        refine lv_dup hx hb dX5_letter_49 rfl ?_
        refine va_get (D := D) (ci := 4) (v := .int (nI P)) (C := RX4) (T := TX4) (N := 3) hx hb hts hinX4 hown hE.1 hP 1 rfl rfl 1 (by decide) k_1 (fun _ h9 => h9) rfl dX5_letter_50 ?_
        refine lv_iconst (v := 1) hx hb dX5_letter_53 (by decide) ?_
        refine z_iaddN hx hb (a := P) (b := 1) rfl rfl dX5_letter_54 ?_
        refine va_put (D := D) (ci := 4) (v := .int (nI (P + 1))) (ty := .int) (C := RX4) (T := TX4) (N := 3) hx hb hts hinX4 tyX4 tyX4_ok nmX4 hown hE.1 hP hD hS 1 rfl rfl 1 (by decide) k_1 (fun _ h9 => h9) rfl (by decide +kernel) rfl rfl (Nat.le_of_ble_eq_true rfl) dX5_letter_55 (fun H locs hP hD hS => ?_)
        have hP : va_P D vwCl [(vd, .inr (5, [.ref pg, .ref co, .ref bk, .ref kb, .ref mt, .ref rn, .int im, .int tr])), (pg, .inr (4, [.ref apl, .int (nI (P + 1)), .int vb])), (apl, .inl (cI, 22, .inl (upd pgf P c0)))] H := hP
        have hD : va_D A [(vd, .inr (5, [.ref pg, .ref co, .ref bk, .ref kb, .ref mt, .ref rn, .int im, .int tr])), (pg, .inr (4, [.ref apl, .int (nI (P + 1)), .int vb])), (apl, .inl (cI, 22, .inl (upd pgf P c0)))] := hD
        refine lv_aload_n hx hb dX5_letter_58 rfl (lv_at hl 0 rfl) ?_
        refine va_get (D := D) (ci := 5) (v := .ref pg) (C := RX5) (T := TX5) (N := 8) hx hb hts hinX5 hown hE.1 hP 0 rfl rfl 0 (by decide) k_0 (fun _ h9 => h9) rfl dX5_letter_59 ?_
        refine va_get (D := D) (ci := 4) (v := .int (nI (P + 1))) (C := RX4) (T := TX4) (N := 3) hx hb hts hinX4 hown hE.1 hP 1 rfl rfl 1 (by decide) k_1 (fun _ h9 => h9) rfl dX5_letter_62 ?_
        have e9 : (fLet P pgf c0) = (nI (P + 1), P + 1, upd pgf P c0) := (by unfold fLet; grind)
        have hP9 := hP.sub (ws' := [(vd, .inr (5, [.ref pg, .ref co, .ref bk, .ref kb, .ref mt, .ref rn, .int im, .int tr])), (pg, .inr (4, [.ref apl, .int (nI ((fLet P pgf c0).2.1)), .int vb])), (apl, .inl (cI, 22, .inl ((fLet P pgf c0).2.2)))]) [0, 1, 2] (by rw [e9]; try rfl)
        have hD9 := hD.sub (ws' := [(vd, .inr (5, [.ref pg, .ref co, .ref bk, .ref kb, .ref mt, .ref rn, .int im, .int tr])), (pg, .inr (4, [.ref apl, .int (nI ((fLet P pgf c0).2.1)), .int vb])), (apl, .inl (cI, 22, .inl ((fLet P pgf c0).2.2)))]) [0, 1, 2] (by decide) (by rw [e9]; try rfl)
        exact W.iret (v := nI (P + 1)) hx hb hr (fun t ht hW => ⟨⟨(nI (P + 1)), (), rfl, (by rw [e9]; try rfl), by rw [ht]; exact hP9, hD9⟩, hS.F ht⟩) hS.2.2 dX5_letter_65
      · have n_23 := zn_nlt (a := P) (b := 22) rfl rfl c_23 (by omega) (by omega)
        refine lv_bipush (v := (-104)) hx hb dX5_letter_26 (by decide) ?_
        have e9 : (fLet P pgf c0) = ((-104), P, pgf) := (by unfold fLet; grind)
        have hP9 := hP.sub (ws' := [(vd, .inr (5, [.ref pg, .ref co, .ref bk, .ref kb, .ref mt, .ref rn, .int im, .int tr])), (pg, .inr (4, [.ref apl, .int (nI ((fLet P pgf c0).2.1)), .int vb])), (apl, .inl (cI, 22, .inl ((fLet P pgf c0).2.2)))]) [0, 1, 2] (by rw [e9]; try rfl)
        have hD9 := hD.sub (ws' := [(vd, .inr (5, [.ref pg, .ref co, .ref bk, .ref kb, .ref mt, .ref rn, .int im, .int tr])), (pg, .inr (4, [.ref apl, .int (nI ((fLet P pgf c0).2.1)), .int vb])), (apl, .inl (cI, 22, .inl ((fLet P pgf c0).2.2)))]) [0, 1, 2] (by decide) (by rw [e9]; try rfl)
        exact W.iret (v := (-104)) hx hb hr (fun t ht hW => ⟨⟨(-104), (), rfl, (by rw [e9]; try rfl), by rw [ht]; exact hP9, hD9⟩, hS.F ht⟩) hS.2.2 dX5_letter_28
    · refine lv_bipush (v := (-102)) hx hb dX5_letter_11 (by decide) ?_
      have e9 : (fLet P pgf c0) = ((-102), P, pgf) := (by unfold fLet; grind)
      have hP9 := hP.sub (ws' := [(vd, .inr (5, [.ref pg, .ref co, .ref bk, .ref kb, .ref mt, .ref rn, .int im, .int tr])), (pg, .inr (4, [.ref apl, .int (nI ((fLet P pgf c0).2.1)), .int vb])), (apl, .inl (cI, 22, .inl ((fLet P pgf c0).2.2)))]) [0, 1, 2] (by rw [e9]; try rfl)
      have hD9 := hD.sub (ws' := [(vd, .inr (5, [.ref pg, .ref co, .ref bk, .ref kb, .ref mt, .ref rn, .int im, .int tr])), (pg, .inr (4, [.ref apl, .int (nI ((fLet P pgf c0).2.1)), .int vb])), (apl, .inl (cI, 22, .inl ((fLet P pgf c0).2.2)))]) [0, 1, 2] (by decide) (by rw [e9]; try rfl)
      exact W.iret (v := (-102)) hx hb hr (fun t ht hW => ⟨⟨(-102), (), rfl, (by rw [e9]; try rfl), by rw [ht]; exact hP9, hD9⟩, hS.F ht⟩) hS.2.2 dX5_letter_13

set_option maxHeartbeats 1000000 in
set_option maxRecDepth 100000 in
theorem c_X5_blank (l : Launch) (D : va_G) (cI cZ cA : ClassId) (sz : Nat) (vd : Nat) (pg : Nat) (co : Nat) (bk : Nat) (kb : Nat) (mt : Nat) (rn : Nat) (im : Int32) (tr : Int32) (apl : Nat) (P : Nat) (vb : Int32)  : Met l yX5_blank wsX5_blank (zr 1) (va_Pc [.ref vd] (zPw D cI cZ cA [(vd, .inr (5, [.ref pg, .ref co, .ref bk, .ref kb, .ref mt, .ref rn, .int im, .int tr])), (pg, .inr (4, [.ref apl, .int (nI P), .int vb]))] sz)) (va_Qi (fun (r : Int32) (_ : Unit) => r = nI P) (zB D [(vd, .inr (5, [.ref pg, .ref co, .ref bk, .ref kb, .ref mt, .ref rn, .int im, .int tr])), (pg, .inr (4, [.ref apl, .int (nI 0), .int vb]))] (va_A [(vd, .inr (5, [.ref pg, .ref co, .ref bk, .ref kb, .ref mt, .ref rn, .int im, .int tr])), (pg, .inr (4, [.ref apl, .int (nI P), .int vb]))] sz)) (va_A [(vd, .inr (5, [.ref pg, .ref co, .ref bk, .ref kb, .ref mt, .ref rn, .int im, .int tr])), (pg, .inr (4, [.ref apl, .int (nI P), .int vb]))] sz)) 0 0 (va_A [(vd, .inr (5, [.ref pg, .ref co, .ref bk, .ref kb, .ref mt, .ref rn, .int im, .int tr])), (pg, .inr (4, [.ref apl, .int (nI P), .int vb]))] sz) := by
  refine Met.ofW (cc := cX5_blank) (maxL := 2) (ret := (some .int)) (by decide) rfl ?_
  intro p e s m args below meth c s₁ B hml hv
  obtain ⟨rfl, hsz, hP, hD0, hE⟩ := hv
  have hx := B.exec
  have hb := B.bytes
  have hr := B.returns
  have hts := atoms_spec (ws := wsX5_blank) B.pre
  have hown : s.vm.findClass RX5 = some m.cls := findClass_of_methodNamed B.named
  have hlocks := B.notSynchronized
  subst hsz
  have hD := hD0.self (sz := s.heap.size)
  generalize hAe : va_A [(vd, .inr (5, [.ref pg, .ref co, .ref bk, .ref kb, .ref mt, .ref rn, .int im, .int tr])), (pg, .inr (4, [.ref apl, .int (nI P), .int vb]))] s.heap.size = A at hD ⊢
  have hA : ∀ q : Nat, s.heap.size ≤ q → A q := fun q h => by rw [← hAe]; exact Or.inr h
  have hS : va_S A s.heap s.heap [] := va_S.rf
  have hP : va_P D vwCl [(vd, .inr (5, [.ref pg, .ref co, .ref bk, .ref kb, .ref mt, .ref rn, .int im, .int tr])), (pg, .inr (4, [.ref apl, .int (nI P), .int vb]))] s.heap := hP
  have hD : va_D A [(vd, .inr (5, [.ref pg, .ref co, .ref bk, .ref kb, .ref mt, .ref rn, .int im, .int tr])), (pg, .inr (4, [.ref apl, .int (nI P), .int vb]))] := hD
  have hl := lv_entry ([.ref vd]) (n := 2) (Nat.le_of_ble_eq_true rfl)
  rw [lg_entry_eq]
  generalize (lg_sl ([.ref vd]) ++ List.replicate (2 - (lg_sl ([.ref vd])).length) Slot.unset).toArray = ls at hl ⊢
  have hl : lv_has ls 2 [(0, .ref vd)] := hl
  have hinX4 : ∀ w ∈ wsX40, w ∈ wsX5_blank := fun w h => List.mem_cons_of_mem _ (List.mem_append_right _ h)
  have hinX5 : ∀ w ∈ wsX50, w ∈ wsX5_blank := fun w h => List.mem_cons_of_mem _ (List.mem_append_left _ (List.mem_append_right _ h))
  have k_0 := hts (.fieldLink RX5 10 "VowDoves" "page" "LVowDoves$Page;") (by decide +kernel)
  have k_1 := hts (.fieldLink RX5 55 "VowDoves$Page" "size" "I") (by decide +kernel)
  refine lv_aload_n hx hb dX5_blank_0 rfl (lv_at hl 0 rfl) ?_
  refine va_get (D := D) (ci := 5) (v := .ref pg) (C := RX5) (T := TX5) (N := 8) hx hb hts hinX5 hown hE.1 hP 0 rfl rfl 0 (by decide) k_0 (fun _ h9 => h9) rfl dX5_blank_1 ?_
  refine va_get (D := D) (ci := 4) (v := .int (nI P)) (C := RX4) (T := TX4) (N := 3) hx hb hts hinX4 hown hE.1 hP 1 rfl rfl 1 (by decide) k_1 (fun _ h9 => h9) rfl dX5_blank_4 ?_
  refine lv_istore_n (lv' := [(1, .int (nI P)), (0, .ref vd)]) hx hb dX5_blank_7 rfl hl (by decide) rfl (fun ls hl => ?_)
  refine lv_aload_n hx hb dX5_blank_8 rfl (lv_at hl 1 rfl) ?_
  refine va_get (D := D) (ci := 5) (v := .ref pg) (C := RX5) (T := TX5) (N := 8) hx hb hts hinX5 hown hE.1 hP 0 rfl rfl 0 (by decide) k_0 (fun _ h9 => h9) rfl dX5_blank_9 ?_
  refine lv_iconst (v := 0) hx hb dX5_blank_12 (by decide) ?_
  refine va_put (D := D) (ci := 4) (v := .int 0) (ty := .int) (C := RX4) (T := TX4) (N := 3) hx hb hts hinX4 tyX4 tyX4_ok nmX4 hown hE.1 hP hD hS 1 rfl rfl 1 (by decide) k_1 (fun _ h9 => h9) rfl (by decide +kernel) rfl rfl (Nat.le_of_ble_eq_true rfl) dX5_blank_13 (fun H locs hP hD hS => ?_)
  have hP : va_P D vwCl [(vd, .inr (5, [.ref pg, .ref co, .ref bk, .ref kb, .ref mt, .ref rn, .int im, .int tr])), (pg, .inr (4, [.ref apl, .int 0, .int vb]))] H := hP
  have hD : va_D A [(vd, .inr (5, [.ref pg, .ref co, .ref bk, .ref kb, .ref mt, .ref rn, .int im, .int tr])), (pg, .inr (4, [.ref apl, .int 0, .int vb]))] := hD
  refine lv_iload_n hx hb dX5_blank_16 rfl (lv_at hl 0 rfl) ?_
  have hP9 := hP.sub (ws' := [(vd, .inr (5, [.ref pg, .ref co, .ref bk, .ref kb, .ref mt, .ref rn, .int im, .int tr])), (pg, .inr (4, [.ref apl, .int (nI 0), .int vb]))]) [0, 1] rfl
  have hD9 := hD.sub (ws' := [(vd, .inr (5, [.ref pg, .ref co, .ref bk, .ref kb, .ref mt, .ref rn, .int im, .int tr])), (pg, .inr (4, [.ref apl, .int (nI 0), .int vb]))]) [0, 1] (by decide) rfl
  exact W.iret (v := nI P) hx hb hr (fun t ht hW => ⟨⟨(nI P), (), rfl, rfl, by rw [ht]; exact hP9, hD9⟩, hS.F ht⟩) hS.2.2 dX5_blank_17

set_option maxHeartbeats 1000000 in
set_option maxRecDepth 100000 in
theorem c_X5_keeper (l : Launch) (D : va_G) (cI cZ cA : ClassId) (vd : Nat) (pg : Nat) (co : Nat) (bk : Nat) (kb : Nat) (mt : Nat) (rn : Nat) (im : Int32) (tr : Int32) (akd : Nat) (afa : Nat) (ahd : Nat) (K : Nat) (Hn : Nat) (alt : Nat) (abd : Nat) (aeg : Nat) (abr : Nat) (ask : Nat) (ash : Nat) (ast : Nat) (sn : Nat) (yr : Int32) (kd : Nat → Int32) (fa : Nat → Int32) (lt : Nat → Int32) (eg : Nat → Int32) (br : Nat → Int32) (sk : Nat → Int32) (sh : Nat → Int32) (st : Nat → Int32) (k : Int32) (what : Int32) (hK : K ≤ 5) (hS8 : sn ≤ 8) : Met l yX5_keeper wsX5_keeper (zr 5) (va_Pc [.ref vd, .int k, .int what] (zPr D cI cZ cA [(vd, .inr (5, [.ref pg, .ref co, .ref bk, .ref kb, .ref mt, .ref rn, .int im, .int tr])), (co, .inr (2, [.ref akd, .ref afa, .ref ahd, .int (nI K), .int (nI Hn)])), (akd, .inl (cI, 5, .inl kd)), (afa, .inl (cI, 5, .inl fa)), (bk, .inr (0, [.ref alt, .ref abd, .ref aeg, .ref abr, .ref ask, .ref ash, .ref ast, .int (nI sn), .int yr])), (alt, .inl (cI, 5, .inl lt)), (aeg, .inl (cI, 5, .inl eg)), (abr, .inl (cI, 5, .inl br)), (ask, .inl (cI, 8, .inl sk)), (ash, .inl (cI, 8, .inl sh)), (ast, .inl (cZ, 8, .inl st))])) (vp_Si (fun r => r = fKeeperC kd fa lt eg br sk sh st K sn k what)) 0 0 (fun _ => False) := by
  refine Met.ofW (cc := cX5_keeper) (maxL := 3) (ret := (some .int)) (by decide) rfl ?_
  intro p e s m args below meth c s₁ B hml hv
  obtain ⟨rfl, hP, hE⟩ := hv
  have hx := B.exec
  have hb := B.bytes
  have hr := B.returns
  have hts := atoms_spec (ws := wsX5_keeper) B.pre
  have hown : s.vm.findClass RX5 = some m.cls := findClass_of_methodNamed B.named
  have hlocks := B.notSynchronized
  have hP : va_P D vwCl [(vd, .inr (5, [.ref pg, .ref co, .ref bk, .ref kb, .ref mt, .ref rn, .int im, .int tr])), (co, .inr (2, [.ref akd, .ref afa, .ref ahd, .int (nI K), .int (nI Hn)])), (akd, .inl (cI, 5, .inl kd)), (afa, .inl (cI, 5, .inl fa)), (bk, .inr (0, [.ref alt, .ref abd, .ref aeg, .ref abr, .ref ask, .ref ash, .ref ast, .int (nI sn), .int yr])), (alt, .inl (cI, 5, .inl lt)), (aeg, .inl (cI, 5, .inl eg)), (abr, .inl (cI, 5, .inl br)), (ask, .inl (cI, 8, .inl sk)), (ash, .inl (cI, 8, .inl sh)), (ast, .inl (cZ, 8, .inl st))] s.heap := hP
  have hl := lv_entry ([.ref vd, .int k, .int what]) (n := 3) (Nat.le_of_ble_eq_true rfl)
  rw [lg_entry_eq]
  generalize (lg_sl ([.ref vd, .int k, .int what]) ++ List.replicate (3 - (lg_sl ([.ref vd, .int k, .int what])).length) Slot.unset).toArray = ls at hl ⊢
  have hl : lv_has ls 3 [(0, .ref vd), (1, .int k), (2, .int what)] := hl
  have hinX0 : ∀ w ∈ wsX00, w ∈ wsX5_keeper := fun w h => List.mem_cons_of_mem _ (List.mem_append_right _ h)
  have hinX2 : ∀ w ∈ wsX20, w ∈ wsX5_keeper := fun w h => List.mem_cons_of_mem _ (List.mem_append_left _ (List.mem_append_right _ h))
  have hinX5 : ∀ w ∈ wsX50, w ∈ wsX5_keeper := fun w h => List.mem_cons_of_mem _ (List.mem_append_left _ (List.mem_append_left _ (List.mem_append_right _ h)))
  have k_0 := hts (.fieldLink RX5 19 "VowDoves" "cote" "LVowDoves$Cote;") (by decide +kernel)
  have k_1 := hts (.fieldLink RX5 84 "VowDoves$Cote" "kinds" "[I") (by decide +kernel)
  have k_2 := hts (.fieldLink RX5 87 "VowDoves$Cote" "faiths" "[I") (by decide +kernel)
  have k_3 := hts (.fieldLink RX5 26 "VowDoves" "book" "LVowDoves$Book;") (by decide +kernel)
  have k_4 := hts (.fieldLink RX5 97 "VowDoves$Book" "broken" "[I") (by decide +kernel)
  refine lv_aload_n hx hb dX5_keeper_0 rfl (lv_at hl 0 rfl) ?_
  refine va_get (D := D) (ci := 5) (v := .ref co) (C := RX5) (T := TX5) (N := 8) hx hb hts hinX5 hown hE.1 hP 0 rfl rfl 1 (by decide) k_0 (fun _ h9 => h9) rfl dX5_keeper_1 ?_
  refine lv_iload_n hx hb dX5_keeper_4 rfl (lv_at hl 1 rfl) ?_
  refine z_roVi (As := [.int k]) (rest := []) ⟨hx, hb, hml, hown, hts⟩ (c_X2_hasKeeper l D cI cZ cA co akd afa ahd K Hn k ) (cwV 1 hts gX5_keeper_X2_hasKeeper rfl rfl rfl (by decide +kernel) ⟨Nat.le_of_ble_eq_true rfl, Nat.le_of_ble_eq_true rfl⟩) hE hP [1] rfl 0 2 rfl rfl rfl hl.1 rfl (Nat.le_of_ble_eq_true rfl) dX5_keeper_5 ⟨Nat.zero_le _, Nat.zero_le _⟩ ?_
  refine lv_if_ne (tgt := 14) hx hb dX5_keeper_8 (by decide) (fun c_8 => ?_) (fun c_8 => ?_)
  · have c_8 := zb_1 c_8
    obtain ⟨j, hj, ej⟩ := z_ix c_8 (by omega)
    have tj : k.toNatClampNeg = j := by rw [ej, nI_clamp (by omega)]
    refine lv_iload_n hx hb dX5_keeper_14 rfl (lv_at hl 2 rfl) ?_
    by_cases c_15_0 : what = 0
    · refine lv_tableIn (tgt := 56) hx hb dX5_keeper_15 (by rw [c_15_0]; decide) (by rw [c_15_0]; decide) (by rw [c_15_0]; rfl) (by decide) ?_
      refine lv_aload_n hx hb dX5_keeper_56 rfl (lv_at hl 0 rfl) ?_
      refine va_get (D := D) (ci := 5) (v := .ref co) (C := RX5) (T := TX5) (N := 8) hx hb hts hinX5 hown hE.1 hP 0 rfl rfl 1 (by decide) k_0 (fun _ h9 => h9) rfl dX5_keeper_57 ?_
      refine va_get (D := D) (ci := 2) (v := .ref akd) (C := RX2) (T := TX2) (N := 5) hx hb hts hinX2 hown hE.1 hP 1 rfl rfl 0 (by decide) k_1 (fun _ h9 => h9) rfl dX5_keeper_60 ?_
      refine lv_iload_n hx hb dX5_keeper_63 rfl (lv_at hl 1 rfl) ?_
      refine z_iald hx hb hE hP 2 rfl (j := j) ej (by omega) (by decide) dX5_keeper_64 ?_
      exact W.iret (v := kd j) hx hb hr (fun t ht hW => ⟨(kd j), rfl, (by rw [fKeeperC, if_pos c_8, tj, tellC]; simp [c_15_0, ej]), ht⟩) (fun q h => by cases h) dX5_keeper_65
    by_cases c_15_1 : what = 1
    · refine lv_tableIn (tgt := 66) hx hb dX5_keeper_15 (by rw [c_15_1]; decide) (by rw [c_15_1]; decide) (by rw [c_15_1]; rfl) (by decide) ?_
      refine lv_aload_n hx hb dX5_keeper_66 rfl (lv_at hl 0 rfl) ?_
      refine va_get (D := D) (ci := 5) (v := .ref co) (C := RX5) (T := TX5) (N := 8) hx hb hts hinX5 hown hE.1 hP 0 rfl rfl 1 (by decide) k_0 (fun _ h9 => h9) rfl dX5_keeper_67 ?_
      refine va_get (D := D) (ci := 2) (v := .ref afa) (C := RX2) (T := TX2) (N := 5) hx hb hts hinX2 hown hE.1 hP 1 rfl rfl 1 (by decide) k_2 (fun _ h9 => h9) rfl dX5_keeper_70 ?_
      refine lv_iload_n hx hb dX5_keeper_73 rfl (lv_at hl 1 rfl) ?_
      refine z_iald hx hb hE hP 3 rfl (j := j) ej (by omega) (by decide) dX5_keeper_74 ?_
      exact W.iret (v := fa j) hx hb hr (fun t ht hW => ⟨(fa j), rfl, (by rw [fKeeperC, if_pos c_8, tj, tellC]; simp [c_15_0, c_15_1, ej]), ht⟩) (fun q h => by cases h) dX5_keeper_75
    by_cases c_15_2 : what = 2
    · refine lv_tableIn (tgt := 76) hx hb dX5_keeper_15 (by rw [c_15_2]; decide) (by rw [c_15_2]; decide) (by rw [c_15_2]; rfl) (by decide) ?_
      refine lv_aload_n hx hb dX5_keeper_76 rfl (lv_at hl 0 rfl) ?_
      refine va_get (D := D) (ci := 5) (v := .ref bk) (C := RX5) (T := TX5) (N := 8) hx hb hts hinX5 hown hE.1 hP 0 rfl rfl 2 (by decide) k_3 (fun _ h9 => h9) rfl dX5_keeper_77 ?_
      refine lv_iload_n hx hb dX5_keeper_80 rfl (lv_at hl 1 rfl) ?_
      refine z_roVi (As := [.int k]) (rest := []) ⟨hx, hb, hml, hown, hts⟩ (c_X0_holesOf l D cI cZ cA bk alt abd aeg abr ask ash ast sn yr lt k ) (cwV 1 hts gX5_keeper_X0_holesOf rfl rfl rfl (by decide +kernel) ⟨Nat.le_of_ble_eq_true rfl, Nat.le_of_ble_eq_true rfl⟩) hE hP [4, 5] rfl 0 0 rfl rfl rfl hl.1 rfl (Nat.le_of_ble_eq_true rfl) dX5_keeper_81 ⟨Nat.zero_le _, Nat.zero_le _⟩ ?_
      exact W.iret (v := (hOfN lt k 5)) hx hb hr (fun t ht hW => ⟨(hOfN lt k 5), rfl, (by rw [fKeeperC, if_pos c_8, tj, tellC]; simp [c_15_0, c_15_1, c_15_2, ej]), ht⟩) (fun q h => by cases h) dX5_keeper_84
    by_cases c_15_3 : what = 3
    · refine lv_tableIn (tgt := 85) hx hb dX5_keeper_15 (by rw [c_15_3]; decide) (by rw [c_15_3]; decide) (by rw [c_15_3]; rfl) (by decide) ?_
      refine lv_aload_n hx hb dX5_keeper_85 rfl (lv_at hl 0 rfl) ?_
      refine va_get (D := D) (ci := 5) (v := .ref bk) (C := RX5) (T := TX5) (N := 8) hx hb hts hinX5 hown hE.1 hP 0 rfl rfl 2 (by decide) k_3 (fun _ h9 => h9) rfl dX5_keeper_86 ?_
      refine lv_iload_n hx hb dX5_keeper_89 rfl (lv_at hl 1 rfl) ?_
      refine z_roVi (As := [.int k]) (rest := []) ⟨hx, hb, hml, hown, hts⟩ (c_X0_eggsOf l D cI cZ cA bk alt abd aeg abr ask ash ast sn yr lt eg k ) (cwV 1 hts gX5_keeper_X0_eggsOf rfl rfl rfl (by decide +kernel) ⟨Nat.le_of_ble_eq_true rfl, Nat.le_of_ble_eq_true rfl⟩) hE hP [4, 5, 6] rfl 0 0 rfl rfl rfl hl.1 rfl (Nat.le_of_ble_eq_true rfl) dX5_keeper_90 ⟨Nat.zero_le _, Nat.zero_le _⟩ ?_
      exact W.iret (v := (eOfN lt eg k 5)) hx hb hr (fun t ht hW => ⟨(eOfN lt eg k 5), rfl, (by rw [fKeeperC, if_pos c_8, tj, tellC]; simp [c_15_0, c_15_1, c_15_2, c_15_3, ej]), ht⟩) (fun q h => by cases h) dX5_keeper_93
    by_cases c_15_4 : what = 4
    · refine lv_tableIn (tgt := 94) hx hb dX5_keeper_15 (by rw [c_15_4]; decide) (by rw [c_15_4]; decide) (by rw [c_15_4]; rfl) (by decide) ?_
      refine lv_aload_n hx hb dX5_keeper_94 rfl (lv_at hl 0 rfl) ?_
      refine va_get (D := D) (ci := 5) (v := .ref bk) (C := RX5) (T := TX5) (N := 8) hx hb hts hinX5 hown hE.1 hP 0 rfl rfl 2 (by decide) k_3 (fun _ h9 => h9) rfl dX5_keeper_95 ?_
      refine va_get (D := D) (ci := 0) (v := .ref abr) (C := RX0) (T := TX0) (N := 9) hx hb hts hinX0 hown hE.1 hP 4 rfl rfl 3 (by decide) k_4 (fun _ h9 => h9) rfl dX5_keeper_98 ?_
      refine lv_iload_n hx hb dX5_keeper_101 rfl (lv_at hl 1 rfl) ?_
      refine z_iald hx hb hE hP 7 rfl (j := j) ej (by omega) (by decide) dX5_keeper_102 ?_
      exact W.iret (v := br j) hx hb hr (fun t ht hW => ⟨(br j), rfl, (by rw [fKeeperC, if_pos c_8, tj, tellC]; simp [c_15_0, c_15_1, c_15_2, c_15_3, c_15_4, ej]), ht⟩) (fun q h => by cases h) dX5_keeper_103
    by_cases c_15_5 : what = 5
    · refine lv_tableIn (tgt := 104) hx hb dX5_keeper_15 (by rw [c_15_5]; decide) (by rw [c_15_5]; decide) (by rw [c_15_5]; rfl) (by decide) ?_
      refine lv_aload_n hx hb dX5_keeper_104 rfl (lv_at hl 0 rfl) ?_
      refine lv_iload_n hx hb dX5_keeper_105 rfl (lv_at hl 1 rfl) ?_
      refine W.eq (g2 := F0 m 106 ls [.int (nI j), .ref vd]) (by rw [show (k : Int32) = nI j from ej]) ?_
      refine z_roVi (As := [.int (nI j)]) (rest := []) ⟨hx, hb, hml, hown, hts⟩ (c_X5_possibleFaiths l D cI cZ cA vd pg co bk kb mt rn im tr akd afa ahd K Hn alt abd aeg abr ask ash ast sn yr kd sk sh st j (by first | assumption | omega) (by first | assumption | omega)) (cwV 1 hts gX5_keeper_X5_possibleFaiths rfl rfl rfl (by decide +kernel) ⟨Nat.le_of_ble_eq_true rfl, Nat.le_of_ble_eq_true rfl⟩) hE hP [0, 1, 2, 4, 8, 9, 10] rfl 0 5 rfl rfl rfl hl.1 rfl (Nat.le_of_ble_eq_true rfl) dX5_keeper_106 ⟨Nat.zero_le _, Nat.zero_le _⟩ ?_
      exact W.iret (v := (pfN (fun z9 => chN kd sk sh st j (nI z9) sn) 10)) hx hb hr (fun t ht hW => ⟨(pfN (fun z9 => chN kd sk sh st j (nI z9) sn) 10), rfl, (by rw [fKeeperC, if_pos c_8, tj, tellC]; simp [c_15_0, c_15_1, c_15_2, c_15_3, c_15_4, c_15_5, ej]), ht⟩) (fun q h => by cases h) dX5_keeper_109
    by_cases c_15_6 : what = 6
    · refine lv_tableIn (tgt := 110) hx hb dX5_keeper_15 (by rw [c_15_6]; decide) (by rw [c_15_6]; decide) (by rw [c_15_6]; rfl) (by decide) ?_
      refine lv_aload_n hx hb dX5_keeper_110 rfl (lv_at hl 0 rfl) ?_
      refine lv_iload_n hx hb dX5_keeper_111 rfl (lv_at hl 1 rfl) ?_
      refine W.eq (g2 := F0 m 112 ls [.int (nI j), .ref vd]) (by rw [show (k : Int32) = nI j from ej]) ?_
      refine z_roVi (As := [.int (nI j)]) (rest := []) ⟨hx, hb, hml, hown, hts⟩ (c_X5_likelyFaith l D cI cZ cA vd pg co bk kb mt rn im tr akd afa ahd K Hn alt abd aeg abr ask ash ast sn yr kd sk sh st j (by first | assumption | omega) (by first | assumption | omega)) (cwV 1 hts gX5_keeper_X5_likelyFaith rfl rfl rfl (by decide +kernel) ⟨Nat.le_of_ble_eq_true rfl, Nat.le_of_ble_eq_true rfl⟩) hE hP [0, 1, 2, 4, 8, 9, 10] rfl 0 5 rfl rfl rfl hl.1 rfl (Nat.le_of_ble_eq_true rfl) dX5_keeper_112 ⟨Nat.zero_le _, Nat.zero_le _⟩ ?_
      exact W.iret (v := (likN (fun z9 => chN kd sk sh st j (nI z9) sn) 10)) hx hb hr (fun t ht hW => ⟨(likN (fun z9 => chN kd sk sh st j (nI z9) sn) 10), rfl, (by rw [fKeeperC, if_pos c_8, tj, tellC]; simp [c_15_0, c_15_1, c_15_2, c_15_3, c_15_4, c_15_5, c_15_6, ej]), ht⟩) (fun q h => by cases h) dX5_keeper_115
    refine lv_tableOut (tgt := 116) hx hb dX5_keeper_15 (zsw (n := 6) (fun j hj => match j, hj with | 0, _ => c_15_0 | 1, _ => c_15_1 | 2, _ => c_15_2 | 3, _ => c_15_3 | 4, _ => c_15_4 | 5, _ => c_15_5 | 6, _ => c_15_6 | k + 7, h => absurd h (by omega)) (by decide)) (by decide) ?_
    refine lv_bipush (v := (-102)) hx hb dX5_keeper_116 (by decide) ?_
    exact W.iret (v := (-102)) hx hb hr (fun t ht hW => ⟨(-102), rfl, (by rw [fKeeperC, if_pos c_8, tj, tellC]; simp [c_15_0, c_15_1, c_15_2, c_15_3, c_15_4, c_15_5, c_15_6, ej]), ht⟩) (fun q h => by cases h) dX5_keeper_118
  · have c_8 := zb_0 c_8
    refine lv_bipush (v := (-101)) hx hb dX5_keeper_11 (by decide) ?_
    exact W.iret (v := (-101)) hx hb hr (fun t ht hW => ⟨(-101), rfl, (by rw [fKeeperC, if_neg c_8]), ht⟩) (fun q h => by cases h) dX5_keeper_13

set_option maxHeartbeats 1000000 in
set_option maxRecDepth 100000 in
theorem c_X5_as (l : Launch) (D : va_G) (cI cZ cA : ClassId) (vd : Nat) (pg : Nat) (co : Nat) (bk : Nat) (kb : Nat) (mt : Nat) (rn : Nat) (im : Int32) (tr : Int32) (akd : Nat) (afa : Nat) (ahd : Nat) (K : Nat) (Hn : Nat) (kd : Nat → Int32) (k : Int32) (kind : Int32) (hK : K ≤ 5) : Met l yX5_as wsX5_as (zr 2) (va_Pc [.ref vd, .int k, .int kind] (zPr D cI cZ cA [(vd, .inr (5, [.ref pg, .ref co, .ref bk, .ref kb, .ref mt, .ref rn, .int im, .int tr])), (co, .inr (2, [.ref akd, .ref afa, .ref ahd, .int (nI K), .int (nI Hn)])), (akd, .inl (cI, 5, .inl kd))])) (vp_Si (fun r => r = fAsC kd K k kind)) 0 0 (fun _ => False) := by
  refine Met.ofW (cc := cX5_as) (maxL := 3) (ret := (some .int)) (by decide) rfl ?_
  intro p e s m args below meth c s₁ B hml hv
  obtain ⟨rfl, hP, hE⟩ := hv
  have hx := B.exec
  have hb := B.bytes
  have hr := B.returns
  have hts := atoms_spec (ws := wsX5_as) B.pre
  have hown : s.vm.findClass RX5 = some m.cls := findClass_of_methodNamed B.named
  have hlocks := B.notSynchronized
  have hP : va_P D vwCl [(vd, .inr (5, [.ref pg, .ref co, .ref bk, .ref kb, .ref mt, .ref rn, .int im, .int tr])), (co, .inr (2, [.ref akd, .ref afa, .ref ahd, .int (nI K), .int (nI Hn)])), (akd, .inl (cI, 5, .inl kd))] s.heap := hP
  have hl := lv_entry ([.ref vd, .int k, .int kind]) (n := 3) (Nat.le_of_ble_eq_true rfl)
  rw [lg_entry_eq]
  generalize (lg_sl ([.ref vd, .int k, .int kind]) ++ List.replicate (3 - (lg_sl ([.ref vd, .int k, .int kind])).length) Slot.unset).toArray = ls at hl ⊢
  have hl : lv_has ls 3 [(0, .ref vd), (1, .int k), (2, .int kind)] := hl
  have hinX2 : ∀ w ∈ wsX20, w ∈ wsX5_as := fun w h => List.mem_cons_of_mem _ (List.mem_append_right _ h)
  have hinX5 : ∀ w ∈ wsX50, w ∈ wsX5_as := fun w h => List.mem_cons_of_mem _ (List.mem_append_left _ (List.mem_append_right _ h))
  have k_0 := hts (.fieldLink RX5 19 "VowDoves" "cote" "LVowDoves$Cote;") (by decide +kernel)
  have k_1 := hts (.fieldLink RX5 84 "VowDoves$Cote" "kinds" "[I") (by decide +kernel)
  refine lv_aload_n hx hb dX5_as_0 rfl (lv_at hl 0 rfl) ?_
  refine va_get (D := D) (ci := 5) (v := .ref co) (C := RX5) (T := TX5) (N := 8) hx hb hts hinX5 hown hE.1 hP 0 rfl rfl 1 (by decide) k_0 (fun _ h9 => h9) rfl dX5_as_1 ?_
  refine lv_iload_n hx hb dX5_as_4 rfl (lv_at hl 1 rfl) ?_
  refine z_roVi (As := [.int k]) (rest := []) ⟨hx, hb, hml, hown, hts⟩ (c_X2_hasKeeper l D cI cZ cA co akd afa ahd K Hn k ) (cwV 1 hts gX5_as_X2_hasKeeper rfl rfl rfl (by decide +kernel) ⟨Nat.le_of_ble_eq_true rfl, Nat.le_of_ble_eq_true rfl⟩) hE hP [1] rfl 0 2 rfl rfl rfl hl.1 rfl (Nat.le_of_ble_eq_true rfl) dX5_as_5 ⟨Nat.zero_le _, Nat.zero_le _⟩ ?_
  refine lv_if_ne (tgt := 14) hx hb dX5_as_8 (by decide) (fun c_8 => ?_) (fun c_8 => ?_)
  · have c_8 := zb_1 c_8
    obtain ⟨j, hj, ej⟩ := z_ix c_8 (by omega)
    have tj : k.toNatClampNeg = j := by rw [ej, nI_clamp (by omega)]
    refine lv_iload_n hx hb dX5_as_14 rfl (lv_at hl 2 rfl) ?_
    refine lv_if_lt (tgt := 23) hx hb dX5_as_15 (by decide) (fun c_15 => ?_) (fun c_15 => ?_)
    · have c_15 := Int32.not_le.mpr c_15
      refine lv_bipush (v := (-102)) hx hb dX5_as_23 (by decide) ?_
      exact W.iret (v := (-102)) hx hb hr (fun t ht hW => ⟨(-102), rfl, (by unfold fAsC; grind), ht⟩) (fun q h => by cases h) dX5_as_25
    · have c_15 := Int32.not_lt.mp c_15
      refine lv_iload_n hx hb dX5_as_18 rfl (lv_at hl 2 rfl) ?_
      refine lv_iconst (v := 4) hx hb dX5_as_19 (by decide) ?_
      refine lv_icmp_le (tgt := 26) hx hb dX5_as_20 (by decide) (fun c_20 => ?_) (fun c_20 => ?_)
      · refine lv_aload_n hx hb dX5_as_26 rfl (lv_at hl 0 rfl) ?_
        refine va_get (D := D) (ci := 5) (v := .ref co) (C := RX5) (T := TX5) (N := 8) hx hb hts hinX5 hown hE.1 hP 0 rfl rfl 1 (by decide) k_0 (fun _ h9 => h9) rfl dX5_as_27 ?_
        refine va_get (D := D) (ci := 2) (v := .ref akd) (C := RX2) (T := TX2) (N := 5) hx hb hts hinX2 hown hE.1 hP 1 rfl rfl 0 (by decide) k_1 (fun _ h9 => h9) rfl dX5_as_30 ?_
        refine lv_iload_n hx hb dX5_as_33 rfl (lv_at hl 1 rfl) ?_
        refine z_iald hx hb hE hP 2 rfl (j := j) ej (by omega) (by decide) dX5_as_34 ?_
        refine lv_iload_n hx hb dX5_as_35 rfl (lv_at hl 2 rfl) ?_
        refine z_roSi (As := [.int (kd j), .int kind]) (rest := []) ⟨hx, hb, hml, hown, hts⟩ (c_X5_isOfKind l D cI cZ cA (kd j) kind ) (va_cwS 2 hts gX5_as_X5_isOfKind rfl rfl rfl (by decide +kernel) ⟨Nat.le_of_ble_eq_true rfl, Nat.le_of_ble_eq_true rfl⟩) hE hP [] rfl rfl hl.1 rfl (Nat.le_of_ble_eq_true rfl) dX5_as_36 ⟨Nat.zero_le _, Nat.zero_le _⟩ ?_
        refine lv_if_eq (tgt := 46) hx hb dX5_as_39 (by decide) (fun c_39 => ?_) (fun c_39 => ?_)
        · have c_39 := zb_0 c_39
          refine lv_iconst (v := (-1)) hx hb dX5_as_46 (by decide) ?_
          exact W.iret (v := (-1)) hx hb hr (fun t ht hW => ⟨(-1), rfl, (by unfold fAsC; grind), ht⟩) (fun q h => by cases h) dX5_as_47
        · have c_39 := zb_1 c_39
          refine lv_iload_n hx hb dX5_as_42 rfl (lv_at hl 1 rfl) ?_
          refine lv_goto (tgt := 47) hx hb dX5_as_43 (by decide) ?_
          exact W.iret (v := k) hx hb hr (fun t ht hW => ⟨k, rfl, (by unfold fAsC; grind), ht⟩) (fun q h => by cases h) dX5_as_47
      · refine lv_bipush (v := (-102)) hx hb dX5_as_23 (by decide) ?_
        exact W.iret (v := (-102)) hx hb hr (fun t ht hW => ⟨(-102), rfl, (by unfold fAsC; grind), ht⟩) (fun q h => by cases h) dX5_as_25
  · have c_8 := zb_0 c_8
    refine lv_bipush (v := (-101)) hx hb dX5_as_11 (by decide) ?_
    exact W.iret (v := (-101)) hx hb hr (fun t ht hW => ⟨(-101), rfl, (by unfold fAsC; grind), ht⟩) (fun q h => by cases h) dX5_as_13

set_option maxHeartbeats 1000000 in
set_option maxRecDepth 100000 in
theorem c_X5_keeps (l : Launch) (D : va_G) (cI cZ cA : ClassId) (vd : Nat) (pg : Nat) (co : Nat) (bk : Nat) (kb : Nat) (mt : Nat) (rn : Nat) (im : Int32) (tr : Int32) (akd : Nat) (afa : Nat) (ahd : Nat) (K : Nat) (Hn : Nat) (kd : Nat → Int32) (fa : Nat → Int32) (k : Int32) (hd0 : Int32) (hK : K ≤ 5) : Met l yX5_keeps wsX5_keeps (zr 4) (va_Pc [.ref vd, .int k, .int hd0] (zPr D cI cZ cA [(vd, .inr (5, [.ref pg, .ref co, .ref bk, .ref kb, .ref mt, .ref rn, .int im, .int tr])), (co, .inr (2, [.ref akd, .ref afa, .ref ahd, .int (nI K), .int (nI Hn)])), (akd, .inl (cI, 5, .inl kd)), (afa, .inl (cI, 5, .inl fa))])) (vp_Si (fun r => r = fKeepsC kd fa K k hd0)) 0 0 (fun _ => False) := by
  refine Met.ofW (cc := cX5_keeps) (maxL := 3) (ret := (some .int)) (by decide) rfl ?_
  intro p e s m args below meth c s₁ B hml hv
  obtain ⟨rfl, hP, hE⟩ := hv
  have hx := B.exec
  have hb := B.bytes
  have hr := B.returns
  have hts := atoms_spec (ws := wsX5_keeps) B.pre
  have hown : s.vm.findClass RX5 = some m.cls := findClass_of_methodNamed B.named
  have hlocks := B.notSynchronized
  have hP : va_P D vwCl [(vd, .inr (5, [.ref pg, .ref co, .ref bk, .ref kb, .ref mt, .ref rn, .int im, .int tr])), (co, .inr (2, [.ref akd, .ref afa, .ref ahd, .int (nI K), .int (nI Hn)])), (akd, .inl (cI, 5, .inl kd)), (afa, .inl (cI, 5, .inl fa))] s.heap := hP
  have hl := lv_entry ([.ref vd, .int k, .int hd0]) (n := 3) (Nat.le_of_ble_eq_true rfl)
  rw [lg_entry_eq]
  generalize (lg_sl ([.ref vd, .int k, .int hd0]) ++ List.replicate (3 - (lg_sl ([.ref vd, .int k, .int hd0])).length) Slot.unset).toArray = ls at hl ⊢
  have hl : lv_has ls 3 [(0, .ref vd), (1, .int k), (2, .int hd0)] := hl
  have hinX5 : ∀ w ∈ wsX50, w ∈ wsX5_keeps := fun w h => List.mem_cons_of_mem _ (List.mem_append_left _ (List.mem_append_right _ h))
  have k_0 := hts (.fieldLink RX5 19 "VowDoves" "cote" "LVowDoves$Cote;") (by decide +kernel)
  refine lv_aload_n hx hb dX5_keeps_0 rfl (lv_at hl 0 rfl) ?_
  refine va_get (D := D) (ci := 5) (v := .ref co) (C := RX5) (T := TX5) (N := 8) hx hb hts hinX5 hown hE.1 hP 0 rfl rfl 1 (by decide) k_0 (fun _ h9 => h9) rfl dX5_keeps_1 ?_
  refine lv_iload_n hx hb dX5_keeps_4 rfl (lv_at hl 1 rfl) ?_
  refine z_roVi (As := [.int k]) (rest := []) ⟨hx, hb, hml, hown, hts⟩ (c_X2_hasKeeper l D cI cZ cA co akd afa ahd K Hn k ) (cwV 1 hts gX5_keeps_X2_hasKeeper rfl rfl rfl (by decide +kernel) ⟨Nat.le_of_ble_eq_true rfl, Nat.le_of_ble_eq_true rfl⟩) hE hP [1] rfl 0 2 rfl rfl rfl hl.1 rfl (Nat.le_of_ble_eq_true rfl) dX5_keeps_5 ⟨Nat.zero_le _, Nat.zero_le _⟩ ?_
  refine lv_if_ne (tgt := 14) hx hb dX5_keeps_8 (by decide) (fun c_8 => ?_) (fun c_8 => ?_)
  · have c_8 := zb_1 c_8
    refine lv_iload_n hx hb dX5_keeps_14 rfl (lv_at hl 2 rfl) ?_
    refine lv_if_lt (tgt := 24) hx hb dX5_keeps_15 (by decide) (fun c_15 => ?_) (fun c_15 => ?_)
    · have c_15 := Int32.not_le.mpr c_15
      refine lv_bipush (v := (-102)) hx hb dX5_keeps_24 (by decide) ?_
      exact W.iret (v := (-102)) hx hb hr (fun t ht hW => ⟨(-102), rfl, (by unfold fKeepsC; grind), ht⟩) (fun q h => by cases h) dX5_keeps_26
    · have c_15 := Int32.not_lt.mp c_15
      refine lv_iload_n hx hb dX5_keeps_18 rfl (lv_at hl 2 rfl) ?_
      refine lv_bipush (v := 9) hx hb dX5_keeps_19 (by decide) ?_
      refine lv_icmp_le (tgt := 27) hx hb dX5_keeps_21 (by decide) (fun c_21 => ?_) (fun c_21 => ?_)
      · refine lv_aload_n hx hb dX5_keeps_27 rfl (lv_at hl 0 rfl) ?_
        refine va_get (D := D) (ci := 5) (v := .ref co) (C := RX5) (T := TX5) (N := 8) hx hb hts hinX5 hown hE.1 hP 0 rfl rfl 1 (by decide) k_0 (fun _ h9 => h9) rfl dX5_keeps_28 ?_
        refine lv_iload_n hx hb dX5_keeps_31 rfl (lv_at hl 1 rfl) ?_
        refine lv_iload_n hx hb dX5_keeps_32 rfl (lv_at hl 2 rfl) ?_
        refine z_roVi (As := [.int k, .int hd0]) (rest := []) ⟨hx, hb, hml, hown, hts⟩ (c_X2_yearsKept l D cI cZ cA co akd afa ahd K Hn kd fa k hd0 (by first | assumption | omega)) (cwV 2 hts gX5_keeps_X2_yearsKept rfl rfl rfl (by decide +kernel) ⟨Nat.le_of_ble_eq_true rfl, Nat.le_of_ble_eq_true rfl⟩) hE hP [1, 2, 3] rfl 0 2 rfl rfl rfl hl.1 rfl (Nat.le_of_ble_eq_true rfl) dX5_keeps_33 ⟨Nat.zero_le _, Nat.zero_le _⟩ ?_
        exact W.iret (v := (ykAt K kd fa k hd0)) hx hb hr (fun t ht hW => ⟨(ykAt K kd fa k hd0), rfl, (by unfold fKeepsC; grind), ht⟩) (fun q h => by cases h) dX5_keeps_36
      · refine lv_bipush (v := (-102)) hx hb dX5_keeps_24 (by decide) ?_
        exact W.iret (v := (-102)) hx hb hr (fun t ht hW => ⟨(-102), rfl, (by unfold fKeepsC; grind), ht⟩) (fun q h => by cases h) dX5_keeps_26
  · have c_8 := zb_0 c_8
    refine lv_bipush (v := (-101)) hx hb dX5_keeps_11 (by decide) ?_
    exact W.iret (v := (-101)) hx hb hr (fun t ht hW => ⟨(-101), rfl, (by unfold fKeepsC; grind), ht⟩) (fun q h => by cases h) dX5_keeps_13

set_option maxHeartbeats 1000000 in
set_option maxRecDepth 100000 in
theorem c_X5_hole (l : Launch) (D : va_G) (cI cZ cA : ClassId) (vd : Nat) (pg : Nat) (co : Nat) (bk : Nat) (kb : Nat) (mt : Nat) (rn : Nat) (im : Int32) (tr : Int32) (akd : Nat) (afa : Nat) (ahd : Nat) (K : Nat) (Hn : Nat) (alt : Nat) (abd : Nat) (aeg : Nat) (abr : Nat) (ask : Nat) (ash : Nat) (ast : Nat) (sn : Nat) (yr : Int32) (kd : Nat → Int32) (fa : Nat → Int32) (hd : Nat → Int32) (lt : Nat → Int32) (bd : Nat → Int32) (eg : Nat → Int32) (h : Int32) (what : Int32) (hK : K ≤ 5) (hH : Hn ≤ 5) : Met l yX5_hole wsX5_hole (zr 4) (va_Pc [.ref vd, .int h, .int what] (zPr D cI cZ cA [(vd, .inr (5, [.ref pg, .ref co, .ref bk, .ref kb, .ref mt, .ref rn, .int im, .int tr])), (co, .inr (2, [.ref akd, .ref afa, .ref ahd, .int (nI K), .int (nI Hn)])), (akd, .inl (cI, 5, .inl kd)), (afa, .inl (cI, 5, .inl fa)), (ahd, .inl (cI, 5, .inl hd)), (bk, .inr (0, [.ref alt, .ref abd, .ref aeg, .ref abr, .ref ask, .ref ash, .ref ast, .int (nI sn), .int yr])), (alt, .inl (cI, 5, .inl lt)), (abd, .inl (cI, 5, .inl bd)), (aeg, .inl (cI, 5, .inl eg))])) (vp_Si (fun r => r = fHoleC kd fa hd lt bd eg K Hn h what)) 0 0 (fun _ => False) := by
  refine Met.ofW (cc := cX5_hole) (maxL := 3) (ret := (some .int)) (by decide) rfl ?_
  intro p e s m args below meth c s₁ B hml hv
  obtain ⟨rfl, hP, hE⟩ := hv
  have hx := B.exec
  have hb := B.bytes
  have hr := B.returns
  have hts := atoms_spec (ws := wsX5_hole) B.pre
  have hown : s.vm.findClass RX5 = some m.cls := findClass_of_methodNamed B.named
  have hlocks := B.notSynchronized
  have hP : va_P D vwCl [(vd, .inr (5, [.ref pg, .ref co, .ref bk, .ref kb, .ref mt, .ref rn, .int im, .int tr])), (co, .inr (2, [.ref akd, .ref afa, .ref ahd, .int (nI K), .int (nI Hn)])), (akd, .inl (cI, 5, .inl kd)), (afa, .inl (cI, 5, .inl fa)), (ahd, .inl (cI, 5, .inl hd)), (bk, .inr (0, [.ref alt, .ref abd, .ref aeg, .ref abr, .ref ask, .ref ash, .ref ast, .int (nI sn), .int yr])), (alt, .inl (cI, 5, .inl lt)), (abd, .inl (cI, 5, .inl bd)), (aeg, .inl (cI, 5, .inl eg))] s.heap := hP
  have hl := lv_entry ([.ref vd, .int h, .int what]) (n := 3) (Nat.le_of_ble_eq_true rfl)
  rw [lg_entry_eq]
  generalize (lg_sl ([.ref vd, .int h, .int what]) ++ List.replicate (3 - (lg_sl ([.ref vd, .int h, .int what])).length) Slot.unset).toArray = ls at hl ⊢
  have hl : lv_has ls 3 [(0, .ref vd), (1, .int h), (2, .int what)] := hl
  have hinX0 : ∀ w ∈ wsX00, w ∈ wsX5_hole := fun w h => List.mem_cons_of_mem _ (List.mem_append_right _ h)
  have hinX2 : ∀ w ∈ wsX20, w ∈ wsX5_hole := fun w h => List.mem_cons_of_mem _ (List.mem_append_left _ (List.mem_append_right _ h))
  have hinX5 : ∀ w ∈ wsX50, w ∈ wsX5_hole := fun w h => List.mem_cons_of_mem _ (List.mem_append_left _ (List.mem_append_left _ (List.mem_append_right _ h)))
  have k_0 := hts (.fieldLink RX5 19 "VowDoves" "cote" "LVowDoves$Cote;") (by decide +kernel)
  have k_1 := hts (.fieldLink RX5 117 "VowDoves$Cote" "hards" "[I") (by decide +kernel)
  have k_2 := hts (.fieldLink RX5 26 "VowDoves" "book" "LVowDoves$Book;") (by decide +kernel)
  have k_3 := hts (.fieldLink RX5 120 "VowDoves$Book" "letTo" "[I") (by decide +kernel)
  have k_4 := hts (.fieldLink RX5 123 "VowDoves$Book" "birds" "[I") (by decide +kernel)
  have k_5 := hts (.fieldLink RX5 126 "VowDoves$Book" "eggs" "[I") (by decide +kernel)
  refine lv_aload_n hx hb dX5_hole_0 rfl (lv_at hl 0 rfl) ?_
  refine va_get (D := D) (ci := 5) (v := .ref co) (C := RX5) (T := TX5) (N := 8) hx hb hts hinX5 hown hE.1 hP 0 rfl rfl 1 (by decide) k_0 (fun _ h9 => h9) rfl dX5_hole_1 ?_
  refine lv_iload_n hx hb dX5_hole_4 rfl (lv_at hl 1 rfl) ?_
  refine z_roVi (As := [.int h]) (rest := []) ⟨hx, hb, hml, hown, hts⟩ (c_X2_hasHole l D cI cZ cA co akd afa ahd K Hn h ) (cwV 1 hts gX5_hole_X2_hasHole rfl rfl rfl (by decide +kernel) ⟨Nat.le_of_ble_eq_true rfl, Nat.le_of_ble_eq_true rfl⟩) hE hP [1] rfl 0 2 rfl rfl rfl hl.1 rfl (Nat.le_of_ble_eq_true rfl) dX5_hole_5 ⟨Nat.zero_le _, Nat.zero_le _⟩ ?_
  refine lv_if_ne (tgt := 14) hx hb dX5_hole_8 (by decide) (fun c_8 => ?_) (fun c_8 => ?_)
  · have c_8 := zb_1 c_8
    obtain ⟨j, hj, ej⟩ := z_ix c_8 (by omega)
    have tj : h.toNatClampNeg = j := by rw [ej, nI_clamp (by omega)]
    refine lv_iload_n hx hb dX5_hole_14 rfl (lv_at hl 2 rfl) ?_
    by_cases c_15_0 : what = 0
    · refine lv_tableIn (tgt := 48) hx hb dX5_hole_15 (by rw [c_15_0]; decide) (by rw [c_15_0]; decide) (by rw [c_15_0]; rfl) (by decide) ?_
      refine lv_aload_n hx hb dX5_hole_48 rfl (lv_at hl 0 rfl) ?_
      refine va_get (D := D) (ci := 5) (v := .ref co) (C := RX5) (T := TX5) (N := 8) hx hb hts hinX5 hown hE.1 hP 0 rfl rfl 1 (by decide) k_0 (fun _ h9 => h9) rfl dX5_hole_49 ?_
      refine va_get (D := D) (ci := 2) (v := .ref ahd) (C := RX2) (T := TX2) (N := 5) hx hb hts hinX2 hown hE.1 hP 1 rfl rfl 2 (by decide) k_1 (fun _ h9 => h9) rfl dX5_hole_52 ?_
      refine lv_iload_n hx hb dX5_hole_55 rfl (lv_at hl 1 rfl) ?_
      refine z_iald hx hb hE hP 4 rfl (j := j) ej (by omega) (by decide) dX5_hole_56 ?_
      exact W.iret (v := hd j) hx hb hr (fun t ht hW => ⟨(hd j), rfl, (by rw [fHoleC, if_pos c_8, tj, tellHC]; simp [c_15_0]), ht⟩) (fun q h => by cases h) dX5_hole_57
    by_cases c_15_1 : what = 1
    · refine lv_tableIn (tgt := 58) hx hb dX5_hole_15 (by rw [c_15_1]; decide) (by rw [c_15_1]; decide) (by rw [c_15_1]; rfl) (by decide) ?_
      refine lv_aload_n hx hb dX5_hole_58 rfl (lv_at hl 0 rfl) ?_
      refine va_get (D := D) (ci := 5) (v := .ref bk) (C := RX5) (T := TX5) (N := 8) hx hb hts hinX5 hown hE.1 hP 0 rfl rfl 2 (by decide) k_2 (fun _ h9 => h9) rfl dX5_hole_59 ?_
      refine va_get (D := D) (ci := 0) (v := .ref alt) (C := RX0) (T := TX0) (N := 9) hx hb hts hinX0 hown hE.1 hP 5 rfl rfl 0 (by decide) k_3 (fun _ h9 => h9) rfl dX5_hole_62 ?_
      refine lv_iload_n hx hb dX5_hole_65 rfl (lv_at hl 1 rfl) ?_
      refine z_iald hx hb hE hP 6 rfl (j := j) ej (by omega) (by decide) dX5_hole_66 ?_
      exact W.iret (v := lt j) hx hb hr (fun t ht hW => ⟨(lt j), rfl, (by rw [fHoleC, if_pos c_8, tj, tellHC]; simp [c_15_0, c_15_1]), ht⟩) (fun q h => by cases h) dX5_hole_67
    by_cases c_15_2 : what = 2
    · refine lv_tableIn (tgt := 68) hx hb dX5_hole_15 (by rw [c_15_2]; decide) (by rw [c_15_2]; decide) (by rw [c_15_2]; rfl) (by decide) ?_
      refine lv_aload_n hx hb dX5_hole_68 rfl (lv_at hl 0 rfl) ?_
      refine va_get (D := D) (ci := 5) (v := .ref bk) (C := RX5) (T := TX5) (N := 8) hx hb hts hinX5 hown hE.1 hP 0 rfl rfl 2 (by decide) k_2 (fun _ h9 => h9) rfl dX5_hole_69 ?_
      refine va_get (D := D) (ci := 0) (v := .ref abd) (C := RX0) (T := TX0) (N := 9) hx hb hts hinX0 hown hE.1 hP 5 rfl rfl 1 (by decide) k_4 (fun _ h9 => h9) rfl dX5_hole_72 ?_
      refine lv_iload_n hx hb dX5_hole_75 rfl (lv_at hl 1 rfl) ?_
      refine z_iald hx hb hE hP 7 rfl (j := j) ej (by omega) (by decide) dX5_hole_76 ?_
      exact W.iret (v := bd j) hx hb hr (fun t ht hW => ⟨(bd j), rfl, (by rw [fHoleC, if_pos c_8, tj, tellHC]; simp [c_15_0, c_15_1, c_15_2]), ht⟩) (fun q h => by cases h) dX5_hole_77
    by_cases c_15_3 : what = 3
    · refine lv_tableIn (tgt := 78) hx hb dX5_hole_15 (by rw [c_15_3]; decide) (by rw [c_15_3]; decide) (by rw [c_15_3]; rfl) (by decide) ?_
      refine lv_aload_n hx hb dX5_hole_78 rfl (lv_at hl 0 rfl) ?_
      refine va_get (D := D) (ci := 5) (v := .ref bk) (C := RX5) (T := TX5) (N := 8) hx hb hts hinX5 hown hE.1 hP 0 rfl rfl 2 (by decide) k_2 (fun _ h9 => h9) rfl dX5_hole_79 ?_
      refine va_get (D := D) (ci := 0) (v := .ref aeg) (C := RX0) (T := TX0) (N := 9) hx hb hts hinX0 hown hE.1 hP 5 rfl rfl 2 (by decide) k_5 (fun _ h9 => h9) rfl dX5_hole_82 ?_
      refine lv_iload_n hx hb dX5_hole_85 rfl (lv_at hl 1 rfl) ?_
      refine z_iald hx hb hE hP 8 rfl (j := j) ej (by omega) (by decide) dX5_hole_86 ?_
      exact W.iret (v := eg j) hx hb hr (fun t ht hW => ⟨(eg j), rfl, (by rw [fHoleC, if_pos c_8, tj, tellHC]; simp [c_15_0, c_15_1, c_15_2, c_15_3]), ht⟩) (fun q h => by cases h) dX5_hole_87
    by_cases c_15_4 : what = 4
    · refine lv_tableIn (tgt := 88) hx hb dX5_hole_15 (by rw [c_15_4]; decide) (by rw [c_15_4]; decide) (by rw [c_15_4]; rfl) (by decide) ?_
      refine lv_aload_n hx hb dX5_hole_88 rfl (lv_at hl 0 rfl) ?_
      refine va_get (D := D) (ci := 5) (v := .ref co) (C := RX5) (T := TX5) (N := 8) hx hb hts hinX5 hown hE.1 hP 0 rfl rfl 1 (by decide) k_0 (fun _ h9 => h9) rfl dX5_hole_89 ?_
      refine lv_aload_n hx hb dX5_hole_92 rfl (lv_at hl 0 rfl) ?_
      refine va_get (D := D) (ci := 5) (v := .ref bk) (C := RX5) (T := TX5) (N := 8) hx hb hts hinX5 hown hE.1 hP 0 rfl rfl 2 (by decide) k_2 (fun _ h9 => h9) rfl dX5_hole_93 ?_
      refine va_get (D := D) (ci := 0) (v := .ref alt) (C := RX0) (T := TX0) (N := 9) hx hb hts hinX0 hown hE.1 hP 5 rfl rfl 0 (by decide) k_3 (fun _ h9 => h9) rfl dX5_hole_96 ?_
      refine lv_iload_n hx hb dX5_hole_99 rfl (lv_at hl 1 rfl) ?_
      refine z_iald hx hb hE hP 6 rfl (j := j) ej (by omega) (by decide) dX5_hole_100 ?_
      refine lv_aload_n hx hb dX5_hole_101 rfl (lv_at hl 0 rfl) ?_
      refine va_get (D := D) (ci := 5) (v := .ref co) (C := RX5) (T := TX5) (N := 8) hx hb hts hinX5 hown hE.1 hP 0 rfl rfl 1 (by decide) k_0 (fun _ h9 => h9) rfl dX5_hole_102 ?_
      refine va_get (D := D) (ci := 2) (v := .ref ahd) (C := RX2) (T := TX2) (N := 5) hx hb hts hinX2 hown hE.1 hP 1 rfl rfl 2 (by decide) k_1 (fun _ h9 => h9) rfl dX5_hole_105 ?_
      refine lv_iload_n hx hb dX5_hole_108 rfl (lv_at hl 1 rfl) ?_
      refine z_iald hx hb hE hP 4 rfl (j := j) ej (by omega) (by decide) dX5_hole_109 ?_
      refine z_roVi (As := [.int (lt j), .int (hd j)]) (rest := []) ⟨hx, hb, hml, hown, hts⟩ (c_X2_yearsKept l D cI cZ cA co akd afa ahd K Hn kd fa (lt j) (hd j) (by first | assumption | omega)) (cwV 2 hts gX5_hole_X2_yearsKept rfl rfl rfl (by decide +kernel) ⟨Nat.le_of_ble_eq_true rfl, Nat.le_of_ble_eq_true rfl⟩) hE hP [1, 2, 3] rfl 0 2 rfl rfl rfl hl.1 rfl (Nat.le_of_ble_eq_true rfl) dX5_hole_110 ⟨Nat.zero_le _, Nat.zero_le _⟩ ?_
      exact W.iret (v := (ykAt K kd fa (lt j) (hd j))) hx hb hr (fun t ht hW => ⟨(ykAt K kd fa (lt j) (hd j)), rfl, (by rw [fHoleC, if_pos c_8, tj, tellHC]; simp [c_15_0, c_15_1, c_15_2, c_15_3, c_15_4]), ht⟩) (fun q h => by cases h) dX5_hole_113
    refine lv_tableOut (tgt := 114) hx hb dX5_hole_15 (zsw (n := 4) (fun j hj => match j, hj with | 0, _ => c_15_0 | 1, _ => c_15_1 | 2, _ => c_15_2 | 3, _ => c_15_3 | 4, _ => c_15_4 | k + 5, h => absurd h (by omega)) (by decide)) (by decide) ?_
    refine lv_bipush (v := (-102)) hx hb dX5_hole_114 (by decide) ?_
    exact W.iret (v := (-102)) hx hb hr (fun t ht hW => ⟨(-102), rfl, (by rw [fHoleC, if_pos c_8, tj, tellHC]; simp [c_15_0, c_15_1, c_15_2, c_15_3, c_15_4]), ht⟩) (fun q h => by cases h) dX5_hole_116
  · have c_8 := zb_0 c_8
    refine lv_bipush (v := (-101)) hx hb dX5_hole_11 (by decide) ?_
    exact W.iret (v := (-101)) hx hb hr (fun t ht hW => ⟨(-101), rfl, (by rw [fHoleC, if_neg c_8]), ht⟩) (fun q h => by cases h) dX5_hole_13

set_option maxHeartbeats 1000000 in
set_option maxRecDepth 100000 in
theorem c_X5_let (l : Launch) (D : va_G) (cI cZ cA : ClassId) (sz : Nat) (vd : Nat) (pg : Nat) (co : Nat) (bk : Nat) (kb : Nat) (mt : Nat) (rn : Nat) (im : Int32) (tr : Int32) (akd : Nat) (afa : Nat) (ahd : Nat) (K : Nat) (Hn : Nat) (alt : Nat) (abd : Nat) (aeg : Nat) (abr : Nat) (ask : Nat) (ash : Nat) (ast : Nat) (sn : Nat) (yr : Int32) (lt : Nat → Int32) (bd : Nat → Int32) (h : Int32) (k : Int32) (hK : K ≤ 5) (hH : Hn ≤ 5) : Met l yX5_let wsX5_let (zr 3) (va_Pc [.ref vd, .int h, .int k] (zPw D cI cZ cA [(vd, .inr (5, [.ref pg, .ref co, .ref bk, .ref kb, .ref mt, .ref rn, .int im, .int tr])), (co, .inr (2, [.ref akd, .ref afa, .ref ahd, .int (nI K), .int (nI Hn)])), (bk, .inr (0, [.ref alt, .ref abd, .ref aeg, .ref abr, .ref ask, .ref ash, .ref ast, .int (nI sn), .int yr])), (alt, .inl (cI, 5, .inl lt)), (abd, .inl (cI, 5, .inl bd))] sz)) (va_Qi (fun (r : Int32) (_ : Unit) => r = (fLetC lt bd K Hn h k).1) (zB D [(vd, .inr (5, [.ref pg, .ref co, .ref bk, .ref kb, .ref mt, .ref rn, .int im, .int tr])), (co, .inr (2, [.ref akd, .ref afa, .ref ahd, .int (nI K), .int (nI Hn)])), (bk, .inr (0, [.ref alt, .ref abd, .ref aeg, .ref abr, .ref ask, .ref ash, .ref ast, .int (nI sn), .int yr])), (alt, .inl (cI, 5, .inl ((fLetC lt bd K Hn h k).2.1))), (abd, .inl (cI, 5, .inl ((fLetC lt bd K Hn h k).2.2)))] (va_A [(vd, .inr (5, [.ref pg, .ref co, .ref bk, .ref kb, .ref mt, .ref rn, .int im, .int tr])), (co, .inr (2, [.ref akd, .ref afa, .ref ahd, .int (nI K), .int (nI Hn)])), (bk, .inr (0, [.ref alt, .ref abd, .ref aeg, .ref abr, .ref ask, .ref ash, .ref ast, .int (nI sn), .int yr])), (alt, .inl (cI, 5, .inl lt)), (abd, .inl (cI, 5, .inl bd))] sz)) (va_A [(vd, .inr (5, [.ref pg, .ref co, .ref bk, .ref kb, .ref mt, .ref rn, .int im, .int tr])), (co, .inr (2, [.ref akd, .ref afa, .ref ahd, .int (nI K), .int (nI Hn)])), (bk, .inr (0, [.ref alt, .ref abd, .ref aeg, .ref abr, .ref ask, .ref ash, .ref ast, .int (nI sn), .int yr])), (alt, .inl (cI, 5, .inl lt)), (abd, .inl (cI, 5, .inl bd))] sz)) 0 0 (va_A [(vd, .inr (5, [.ref pg, .ref co, .ref bk, .ref kb, .ref mt, .ref rn, .int im, .int tr])), (co, .inr (2, [.ref akd, .ref afa, .ref ahd, .int (nI K), .int (nI Hn)])), (bk, .inr (0, [.ref alt, .ref abd, .ref aeg, .ref abr, .ref ask, .ref ash, .ref ast, .int (nI sn), .int yr])), (alt, .inl (cI, 5, .inl lt)), (abd, .inl (cI, 5, .inl bd))] sz) := by
  refine Met.ofW (cc := cX5_let) (maxL := 3) (ret := (some .int)) (by decide) rfl ?_
  intro p e s m args below meth c s₁ B hml hv
  obtain ⟨rfl, hsz, hP, hD0, hE⟩ := hv
  have hx := B.exec
  have hb := B.bytes
  have hr := B.returns
  have hts := atoms_spec (ws := wsX5_let) B.pre
  have hown : s.vm.findClass RX5 = some m.cls := findClass_of_methodNamed B.named
  have hlocks := B.notSynchronized
  subst hsz
  have hD := hD0.self (sz := s.heap.size)
  generalize hAe : va_A [(vd, .inr (5, [.ref pg, .ref co, .ref bk, .ref kb, .ref mt, .ref rn, .int im, .int tr])), (co, .inr (2, [.ref akd, .ref afa, .ref ahd, .int (nI K), .int (nI Hn)])), (bk, .inr (0, [.ref alt, .ref abd, .ref aeg, .ref abr, .ref ask, .ref ash, .ref ast, .int (nI sn), .int yr])), (alt, .inl (cI, 5, .inl lt)), (abd, .inl (cI, 5, .inl bd))] s.heap.size = A at hD ⊢
  have hA : ∀ q : Nat, s.heap.size ≤ q → A q := fun q h => by rw [← hAe]; exact Or.inr h
  have hS : va_S A s.heap s.heap [] := va_S.rf
  have hP : va_P D vwCl [(vd, .inr (5, [.ref pg, .ref co, .ref bk, .ref kb, .ref mt, .ref rn, .int im, .int tr])), (co, .inr (2, [.ref akd, .ref afa, .ref ahd, .int (nI K), .int (nI Hn)])), (bk, .inr (0, [.ref alt, .ref abd, .ref aeg, .ref abr, .ref ask, .ref ash, .ref ast, .int (nI sn), .int yr])), (alt, .inl (cI, 5, .inl lt)), (abd, .inl (cI, 5, .inl bd))] s.heap := hP
  have hD : va_D A [(vd, .inr (5, [.ref pg, .ref co, .ref bk, .ref kb, .ref mt, .ref rn, .int im, .int tr])), (co, .inr (2, [.ref akd, .ref afa, .ref ahd, .int (nI K), .int (nI Hn)])), (bk, .inr (0, [.ref alt, .ref abd, .ref aeg, .ref abr, .ref ask, .ref ash, .ref ast, .int (nI sn), .int yr])), (alt, .inl (cI, 5, .inl lt)), (abd, .inl (cI, 5, .inl bd))] := hD
  have hl := lv_entry ([.ref vd, .int h, .int k]) (n := 3) (Nat.le_of_ble_eq_true rfl)
  rw [lg_entry_eq]
  generalize (lg_sl ([.ref vd, .int h, .int k]) ++ List.replicate (3 - (lg_sl ([.ref vd, .int h, .int k])).length) Slot.unset).toArray = ls at hl ⊢
  have hl : lv_has ls 3 [(0, .ref vd), (1, .int h), (2, .int k)] := hl
  have hinX0 : ∀ w ∈ wsX00, w ∈ wsX5_let := fun w h => List.mem_cons_of_mem _ (List.mem_append_left _ (List.mem_append_right _ h))
  have hinX5 : ∀ w ∈ wsX50, w ∈ wsX5_let := fun w h => List.mem_cons_of_mem _ (List.mem_append_left _ (List.mem_append_left _ (List.mem_append_right _ h)))
  have k_0 := hts (.fieldLink RX5 19 "VowDoves" "cote" "LVowDoves$Cote;") (by decide +kernel)
  have k_1 := hts (.fieldLink RX5 26 "VowDoves" "book" "LVowDoves$Book;") (by decide +kernel)
  have k_2 := hts (.fieldLink RX5 123 "VowDoves$Book" "birds" "[I") (by decide +kernel)
  have k_3 := hts (.fieldLink RX5 120 "VowDoves$Book" "letTo" "[I") (by decide +kernel)
  refine lv_aload_n hx hb dX5_let_0 rfl (lv_at hl 0 rfl) ?_
  refine va_get (D := D) (ci := 5) (v := .ref co) (C := RX5) (T := TX5) (N := 8) hx hb hts hinX5 hown hE.1 hP 0 rfl rfl 1 (by decide) k_0 (fun _ h9 => h9) rfl dX5_let_1 ?_
  refine lv_iload_n hx hb dX5_let_4 rfl (lv_at hl 1 rfl) ?_
  refine z_roVi (As := [.int h]) (rest := []) ⟨hx, hb, hml, hown, hts⟩ (c_X2_hasHole l D cI cZ cA co akd afa ahd K Hn h ) (cwV 1 hts gX5_let_X2_hasHole rfl rfl rfl (by decide +kernel) ⟨Nat.le_of_ble_eq_true rfl, Nat.le_of_ble_eq_true rfl⟩) hE hP [1] rfl 0 2 rfl rfl rfl hl.1 rfl (Nat.le_of_ble_eq_true rfl) dX5_let_5 ⟨Nat.zero_le _, Nat.zero_le _⟩ ?_
  refine lv_if_eq (tgt := 22) hx hb dX5_let_8 (by decide) (fun c_8 => ?_) (fun c_8 => ?_)
  · have c_8 := zb_0 c_8
    refine lv_bipush (v := (-101)) hx hb dX5_let_22 (by decide) ?_
    have e9 : (fLetC lt bd K Hn h k) = ((-101), lt, bd) := (by unfold fLetC; grind)
    have hP9 := hP.sub (ws' := [(vd, .inr (5, [.ref pg, .ref co, .ref bk, .ref kb, .ref mt, .ref rn, .int im, .int tr])), (co, .inr (2, [.ref akd, .ref afa, .ref ahd, .int (nI K), .int (nI Hn)])), (bk, .inr (0, [.ref alt, .ref abd, .ref aeg, .ref abr, .ref ask, .ref ash, .ref ast, .int (nI sn), .int yr])), (alt, .inl (cI, 5, .inl ((fLetC lt bd K Hn h k).2.1))), (abd, .inl (cI, 5, .inl ((fLetC lt bd K Hn h k).2.2)))]) [0, 1, 2, 3, 4] (by rw [e9]; try rfl)
    have hD9 := hD.sub (ws' := [(vd, .inr (5, [.ref pg, .ref co, .ref bk, .ref kb, .ref mt, .ref rn, .int im, .int tr])), (co, .inr (2, [.ref akd, .ref afa, .ref ahd, .int (nI K), .int (nI Hn)])), (bk, .inr (0, [.ref alt, .ref abd, .ref aeg, .ref abr, .ref ask, .ref ash, .ref ast, .int (nI sn), .int yr])), (alt, .inl (cI, 5, .inl ((fLetC lt bd K Hn h k).2.1))), (abd, .inl (cI, 5, .inl ((fLetC lt bd K Hn h k).2.2)))]) [0, 1, 2, 3, 4] (by decide) (by rw [e9]; try rfl)
    exact W.iret (v := (-101)) hx hb hr (fun t ht hW => ⟨⟨(-101), (), rfl, (by rw [e9]; try rfl), by rw [ht]; exact hP9, hD9⟩, hS.F ht⟩) hS.2.2 dX5_let_24
  · have c_8 := zb_1 c_8
    obtain ⟨j, hj, ej⟩ := z_ix c_8 (by omega)
    have tj : h.toNatClampNeg = j := by rw [ej, nI_clamp (by omega)]
    refine lv_aload_n hx hb dX5_let_11 rfl (lv_at hl 0 rfl) ?_
    refine va_get (D := D) (ci := 5) (v := .ref co) (C := RX5) (T := TX5) (N := 8) hx hb hts hinX5 hown hE.1 hP 0 rfl rfl 1 (by decide) k_0 (fun _ h9 => h9) rfl dX5_let_12 ?_
    refine lv_iload_n hx hb dX5_let_15 rfl (lv_at hl 2 rfl) ?_
    refine z_roVi (As := [.int k]) (rest := []) ⟨hx, hb, hml, hown, hts⟩ (c_X2_hasKeeper l D cI cZ cA co akd afa ahd K Hn k ) (cwV 1 hts gX5_let_X2_hasKeeper rfl rfl rfl (by decide +kernel) ⟨Nat.le_of_ble_eq_true rfl, Nat.le_of_ble_eq_true rfl⟩) hE hP [1] rfl 0 2 rfl rfl rfl hl.1 rfl (Nat.le_of_ble_eq_true rfl) dX5_let_16 ⟨Nat.zero_le _, Nat.zero_le _⟩ ?_
    refine lv_if_ne (tgt := 25) hx hb dX5_let_19 (by decide) (fun c_19 => ?_) (fun c_19 => ?_)
    · have c_19 := zb_1 c_19
      refine lv_aload_n hx hb dX5_let_25 rfl (lv_at hl 0 rfl) ?_
      refine va_get (D := D) (ci := 5) (v := .ref bk) (C := RX5) (T := TX5) (N := 8) hx hb hts hinX5 hown hE.1 hP 0 rfl rfl 2 (by decide) k_1 (fun _ h9 => h9) rfl dX5_let_26 ?_
      refine va_get (D := D) (ci := 0) (v := .ref abd) (C := RX0) (T := TX0) (N := 9) hx hb hts hinX0 hown hE.1 hP 2 rfl rfl 1 (by decide) k_2 (fun _ h9 => h9) rfl dX5_let_29 ?_
      refine lv_iload_n hx hb dX5_let_32 rfl (lv_at hl 1 rfl) ?_
      refine z_iald hx hb hE hP 4 rfl (j := j) ej (by omega) (by decide) dX5_let_33 ?_
      refine lv_if_ne (tgt := 48) hx hb dX5_let_34 (by decide) (fun c_34 => ?_) (fun c_34 => ?_)
      · refine lv_bipush (v := (-103)) hx hb dX5_let_48 (by decide) ?_
        have e9 : (fLetC lt bd K Hn h k) = ((-103), lt, bd) := (by unfold fLetC; grind)
        have hP9 := hP.sub (ws' := [(vd, .inr (5, [.ref pg, .ref co, .ref bk, .ref kb, .ref mt, .ref rn, .int im, .int tr])), (co, .inr (2, [.ref akd, .ref afa, .ref ahd, .int (nI K), .int (nI Hn)])), (bk, .inr (0, [.ref alt, .ref abd, .ref aeg, .ref abr, .ref ask, .ref ash, .ref ast, .int (nI sn), .int yr])), (alt, .inl (cI, 5, .inl ((fLetC lt bd K Hn h k).2.1))), (abd, .inl (cI, 5, .inl ((fLetC lt bd K Hn h k).2.2)))]) [0, 1, 2, 3, 4] (by rw [e9]; try rfl)
        have hD9 := hD.sub (ws' := [(vd, .inr (5, [.ref pg, .ref co, .ref bk, .ref kb, .ref mt, .ref rn, .int im, .int tr])), (co, .inr (2, [.ref akd, .ref afa, .ref ahd, .int (nI K), .int (nI Hn)])), (bk, .inr (0, [.ref alt, .ref abd, .ref aeg, .ref abr, .ref ask, .ref ash, .ref ast, .int (nI sn), .int yr])), (alt, .inl (cI, 5, .inl ((fLetC lt bd K Hn h k).2.1))), (abd, .inl (cI, 5, .inl ((fLetC lt bd K Hn h k).2.2)))]) [0, 1, 2, 3, 4] (by decide) (by rw [e9]; try rfl)
        exact W.iret (v := (-103)) hx hb hr (fun t ht hW => ⟨⟨(-103), (), rfl, (by rw [e9]; try rfl), by rw [ht]; exact hP9, hD9⟩, hS.F ht⟩) hS.2.2 dX5_let_50
      · refine lv_aload_n hx hb dX5_let_37 rfl (lv_at hl 0 rfl) ?_
        refine va_get (D := D) (ci := 5) (v := .ref bk) (C := RX5) (T := TX5) (N := 8) hx hb hts hinX5 hown hE.1 hP 0 rfl rfl 2 (by decide) k_1 (fun _ h9 => h9) rfl dX5_let_38 ?_
        refine lv_iload_n hx hb dX5_let_41 rfl (lv_at hl 2 rfl) ?_
        refine z_roVi (As := [.int k]) (rest := []) ⟨hx, hb, hml, hown, hts⟩ (c_X0_roomOf l D cI cZ cA bk alt abd aeg abr ask ash ast sn yr lt k ) (cwV 1 hts gX5_let_X0_roomOf rfl rfl rfl (by decide +kernel) ⟨Nat.le_of_ble_eq_true rfl, Nat.le_of_ble_eq_true rfl⟩) hE hP [2, 3] rfl 0 0 rfl rfl rfl hl.1 rfl (Nat.le_of_ble_eq_true rfl) dX5_let_42 ⟨Nat.zero_le _, Nat.zero_le _⟩ ?_
        refine lv_if_gt (tgt := 51) hx hb dX5_let_45 (by decide) (fun c_45 => ?_) (fun c_45 => ?_)
        · refine lv_aload_n hx hb dX5_let_51 rfl (lv_at hl 0 rfl) ?_
          refine va_get (D := D) (ci := 5) (v := .ref bk) (C := RX5) (T := TX5) (N := 8) hx hb hts hinX5 hown hE.1 hP 0 rfl rfl 2 (by decide) k_1 (fun _ h9 => h9) rfl dX5_let_52 ?_
          refine va_get (D := D) (ci := 0) (v := .ref alt) (C := RX0) (T := TX0) (N := 9) hx hb hts hinX0 hown hE.1 hP 2 rfl rfl 0 (by decide) k_3 (fun _ h9 => h9) rfl dX5_let_55 ?_
          refine lv_iload_n hx hb dX5_let_58 rfl (lv_at hl 1 rfl) ?_
          refine lv_iload_n hx hb dX5_let_59 rfl (lv_at hl 2 rfl) ?_
          refine z_iast hx hb hE hP hD hS 3 rfl (j := j) ej (by omega) (by decide) dX5_let_60 (fun H locs hP hD hS => ?_)
          have hP : va_P D vwCl [(vd, .inr (5, [.ref pg, .ref co, .ref bk, .ref kb, .ref mt, .ref rn, .int im, .int tr])), (co, .inr (2, [.ref akd, .ref afa, .ref ahd, .int (nI K), .int (nI Hn)])), (bk, .inr (0, [.ref alt, .ref abd, .ref aeg, .ref abr, .ref ask, .ref ash, .ref ast, .int (nI sn), .int yr])), (alt, .inl (cI, 5, .inl (upd lt j k))), (abd, .inl (cI, 5, .inl bd))] H := hP
          have hD : va_D A [(vd, .inr (5, [.ref pg, .ref co, .ref bk, .ref kb, .ref mt, .ref rn, .int im, .int tr])), (co, .inr (2, [.ref akd, .ref afa, .ref ahd, .int (nI K), .int (nI Hn)])), (bk, .inr (0, [.ref alt, .ref abd, .ref aeg, .ref abr, .ref ask, .ref ash, .ref ast, .int (nI sn), .int yr])), (alt, .inl (cI, 5, .inl (upd lt j k))), (abd, .inl (cI, 5, .inl bd))] := hD
          refine lv_aload_n hx hb dX5_let_61 rfl (lv_at hl 0 rfl) ?_
          refine va_get (D := D) (ci := 5) (v := .ref bk) (C := RX5) (T := TX5) (N := 8) hx hb hts hinX5 hown hE.1 hP 0 rfl rfl 2 (by decide) k_1 (fun _ h9 => h9) rfl dX5_let_62 ?_
          refine va_get (D := D) (ci := 0) (v := .ref abd) (C := RX0) (T := TX0) (N := 9) hx hb hts hinX0 hown hE.1 hP 2 rfl rfl 1 (by decide) k_2 (fun _ h9 => h9) rfl dX5_let_65 ?_
          refine lv_iload_n hx hb dX5_let_68 rfl (lv_at hl 1 rfl) ?_
          refine lv_iconst (v := 1) hx hb dX5_let_69 (by decide) ?_
          refine z_iast hx hb hE hP hD hS 4 rfl (j := j) ej (by omega) (by decide) dX5_let_70 (fun H locs hP hD hS => ?_)
          have hP : va_P D vwCl [(vd, .inr (5, [.ref pg, .ref co, .ref bk, .ref kb, .ref mt, .ref rn, .int im, .int tr])), (co, .inr (2, [.ref akd, .ref afa, .ref ahd, .int (nI K), .int (nI Hn)])), (bk, .inr (0, [.ref alt, .ref abd, .ref aeg, .ref abr, .ref ask, .ref ash, .ref ast, .int (nI sn), .int yr])), (alt, .inl (cI, 5, .inl (upd lt j k))), (abd, .inl (cI, 5, .inl (upd bd j 1)))] H := hP
          have hD : va_D A [(vd, .inr (5, [.ref pg, .ref co, .ref bk, .ref kb, .ref mt, .ref rn, .int im, .int tr])), (co, .inr (2, [.ref akd, .ref afa, .ref ahd, .int (nI K), .int (nI Hn)])), (bk, .inr (0, [.ref alt, .ref abd, .ref aeg, .ref abr, .ref ask, .ref ash, .ref ast, .int (nI sn), .int yr])), (alt, .inl (cI, 5, .inl (upd lt j k))), (abd, .inl (cI, 5, .inl (upd bd j 1)))] := hD
          refine lv_aload_n hx hb dX5_let_71 rfl (lv_at hl 0 rfl) ?_
          refine va_get (D := D) (ci := 5) (v := .ref bk) (C := RX5) (T := TX5) (N := 8) hx hb hts hinX5 hown hE.1 hP 0 rfl rfl 2 (by decide) k_1 (fun _ h9 => h9) rfl dX5_let_72 ?_
          refine lv_iload_n hx hb dX5_let_75 rfl (lv_at hl 2 rfl) ?_
          refine z_roVi (As := [.int k]) (rest := []) ⟨hx, hb, hml, hown, hts⟩ (c_X0_holesOf l D cI cZ cA bk alt abd aeg abr ask ash ast sn yr (upd lt j k) k ) (cwV 1 hts gX5_let_X0_holesOf rfl rfl rfl (by decide +kernel) ⟨Nat.le_of_ble_eq_true rfl, Nat.le_of_ble_eq_true rfl⟩) hE hP [2, 3] rfl 0 0 rfl rfl rfl hl.1 rfl (Nat.le_of_ble_eq_true rfl) dX5_let_76 ⟨Nat.zero_le _, Nat.zero_le _⟩ ?_
          refine z_roSi (As := [.int (hOfN (upd lt j k) k 5)]) (rest := []) ⟨hx, hb, hml, hown, hts⟩ (c_J6_bitCount_0f7a4 l D cI cZ cA (hOfN (upd lt j k) k 5) ) (va_cwS 1 hts gX5_let_J6_bitCount_0f7a4 rfl rfl rfl (by decide +kernel) ⟨Nat.le_of_ble_eq_true rfl, Nat.le_of_ble_eq_true rfl⟩) hE hP [] rfl rfl hl.1 rfl (Nat.le_of_ble_eq_true rfl) dX5_let_79 ⟨Nat.zero_le _, Nat.zero_le _⟩ ?_
          have e9 : (fLetC lt bd K Hn h k) = ((bitc (hOfN (upd lt j k) k 5)), upd lt j k, upd bd j 1) := (by unfold fLetC; grind)
          have hP9 := hP.sub (ws' := [(vd, .inr (5, [.ref pg, .ref co, .ref bk, .ref kb, .ref mt, .ref rn, .int im, .int tr])), (co, .inr (2, [.ref akd, .ref afa, .ref ahd, .int (nI K), .int (nI Hn)])), (bk, .inr (0, [.ref alt, .ref abd, .ref aeg, .ref abr, .ref ask, .ref ash, .ref ast, .int (nI sn), .int yr])), (alt, .inl (cI, 5, .inl ((fLetC lt bd K Hn h k).2.1))), (abd, .inl (cI, 5, .inl ((fLetC lt bd K Hn h k).2.2)))]) [0, 1, 2, 3, 4] (by rw [e9]; try rfl)
          have hD9 := hD.sub (ws' := [(vd, .inr (5, [.ref pg, .ref co, .ref bk, .ref kb, .ref mt, .ref rn, .int im, .int tr])), (co, .inr (2, [.ref akd, .ref afa, .ref ahd, .int (nI K), .int (nI Hn)])), (bk, .inr (0, [.ref alt, .ref abd, .ref aeg, .ref abr, .ref ask, .ref ash, .ref ast, .int (nI sn), .int yr])), (alt, .inl (cI, 5, .inl ((fLetC lt bd K Hn h k).2.1))), (abd, .inl (cI, 5, .inl ((fLetC lt bd K Hn h k).2.2)))]) [0, 1, 2, 3, 4] (by decide) (by rw [e9]; try rfl)
          exact W.iret (v := (bitc (hOfN (upd lt j k) k 5))) hx hb hr (fun t ht hW => ⟨⟨(bitc (hOfN (upd lt j k) k 5)), (), rfl, (by rw [e9]; try rfl), by rw [ht]; exact hP9, hD9⟩, hS.F ht⟩) hS.2.2 dX5_let_82
        · refine lv_bipush (v := (-103)) hx hb dX5_let_48 (by decide) ?_
          have e9 : (fLetC lt bd K Hn h k) = ((-103), lt, bd) := (by unfold fLetC; grind)
          have hP9 := hP.sub (ws' := [(vd, .inr (5, [.ref pg, .ref co, .ref bk, .ref kb, .ref mt, .ref rn, .int im, .int tr])), (co, .inr (2, [.ref akd, .ref afa, .ref ahd, .int (nI K), .int (nI Hn)])), (bk, .inr (0, [.ref alt, .ref abd, .ref aeg, .ref abr, .ref ask, .ref ash, .ref ast, .int (nI sn), .int yr])), (alt, .inl (cI, 5, .inl ((fLetC lt bd K Hn h k).2.1))), (abd, .inl (cI, 5, .inl ((fLetC lt bd K Hn h k).2.2)))]) [0, 1, 2, 3, 4] (by rw [e9]; try rfl)
          have hD9 := hD.sub (ws' := [(vd, .inr (5, [.ref pg, .ref co, .ref bk, .ref kb, .ref mt, .ref rn, .int im, .int tr])), (co, .inr (2, [.ref akd, .ref afa, .ref ahd, .int (nI K), .int (nI Hn)])), (bk, .inr (0, [.ref alt, .ref abd, .ref aeg, .ref abr, .ref ask, .ref ash, .ref ast, .int (nI sn), .int yr])), (alt, .inl (cI, 5, .inl ((fLetC lt bd K Hn h k).2.1))), (abd, .inl (cI, 5, .inl ((fLetC lt bd K Hn h k).2.2)))]) [0, 1, 2, 3, 4] (by decide) (by rw [e9]; try rfl)
          exact W.iret (v := (-103)) hx hb hr (fun t ht hW => ⟨⟨(-103), (), rfl, (by rw [e9]; try rfl), by rw [ht]; exact hP9, hD9⟩, hS.F ht⟩) hS.2.2 dX5_let_50
    · have c_19 := zb_0 c_19
      refine lv_bipush (v := (-101)) hx hb dX5_let_22 (by decide) ?_
      have e9 : (fLetC lt bd K Hn h k) = ((-101), lt, bd) := (by unfold fLetC; grind)
      have hP9 := hP.sub (ws' := [(vd, .inr (5, [.ref pg, .ref co, .ref bk, .ref kb, .ref mt, .ref rn, .int im, .int tr])), (co, .inr (2, [.ref akd, .ref afa, .ref ahd, .int (nI K), .int (nI Hn)])), (bk, .inr (0, [.ref alt, .ref abd, .ref aeg, .ref abr, .ref ask, .ref ash, .ref ast, .int (nI sn), .int yr])), (alt, .inl (cI, 5, .inl ((fLetC lt bd K Hn h k).2.1))), (abd, .inl (cI, 5, .inl ((fLetC lt bd K Hn h k).2.2)))]) [0, 1, 2, 3, 4] (by rw [e9]; try rfl)
      have hD9 := hD.sub (ws' := [(vd, .inr (5, [.ref pg, .ref co, .ref bk, .ref kb, .ref mt, .ref rn, .int im, .int tr])), (co, .inr (2, [.ref akd, .ref afa, .ref ahd, .int (nI K), .int (nI Hn)])), (bk, .inr (0, [.ref alt, .ref abd, .ref aeg, .ref abr, .ref ask, .ref ash, .ref ast, .int (nI sn), .int yr])), (alt, .inl (cI, 5, .inl ((fLetC lt bd K Hn h k).2.1))), (abd, .inl (cI, 5, .inl ((fLetC lt bd K Hn h k).2.2)))]) [0, 1, 2, 3, 4] (by decide) (by rw [e9]; try rfl)
      exact W.iret (v := (-101)) hx hb hr (fun t ht hW => ⟨⟨(-101), (), rfl, (by rw [e9]; try rfl), by rw [ht]; exact hP9, hD9⟩, hS.F ht⟩) hS.2.2 dX5_let_24

set_option maxHeartbeats 1000000 in
set_option maxRecDepth 100000 in
theorem c_X5_leave (l : Launch) (D : va_G) (cI cZ cA : ClassId) (sz : Nat) (vd : Nat) (pg : Nat) (co : Nat) (bk : Nat) (kb : Nat) (mt : Nat) (rn : Nat) (im : Int32) (tr : Int32) (akd : Nat) (afa : Nat) (ahd : Nat) (K : Nat) (Hn : Nat) (alt : Nat) (abd : Nat) (aeg : Nat) (abr : Nat) (ask : Nat) (ash : Nat) (ast : Nat) (sn : Nat) (yr : Int32) (lt : Nat → Int32) (bd : Nat → Int32) (eg : Nat → Int32) (h : Int32) (hH : Hn ≤ 5) : Met l yX5_leave wsX5_leave (zr 2) (va_Pc [.ref vd, .int h] (zPw D cI cZ cA [(vd, .inr (5, [.ref pg, .ref co, .ref bk, .ref kb, .ref mt, .ref rn, .int im, .int tr])), (co, .inr (2, [.ref akd, .ref afa, .ref ahd, .int (nI K), .int (nI Hn)])), (bk, .inr (0, [.ref alt, .ref abd, .ref aeg, .ref abr, .ref ask, .ref ash, .ref ast, .int (nI sn), .int yr])), (alt, .inl (cI, 5, .inl lt)), (abd, .inl (cI, 5, .inl bd)), (aeg, .inl (cI, 5, .inl eg))] sz)) (va_Qi (fun (r : Int32) (_ : Unit) => r = (fLeaveC lt bd eg Hn h).1) (zB D [(vd, .inr (5, [.ref pg, .ref co, .ref bk, .ref kb, .ref mt, .ref rn, .int im, .int tr])), (co, .inr (2, [.ref akd, .ref afa, .ref ahd, .int (nI K), .int (nI Hn)])), (bk, .inr (0, [.ref alt, .ref abd, .ref aeg, .ref abr, .ref ask, .ref ash, .ref ast, .int (nI sn), .int yr])), (alt, .inl (cI, 5, .inl ((fLeaveC lt bd eg Hn h).2.1))), (abd, .inl (cI, 5, .inl ((fLeaveC lt bd eg Hn h).2.2.1))), (aeg, .inl (cI, 5, .inl ((fLeaveC lt bd eg Hn h).2.2.2)))] (va_A [(vd, .inr (5, [.ref pg, .ref co, .ref bk, .ref kb, .ref mt, .ref rn, .int im, .int tr])), (co, .inr (2, [.ref akd, .ref afa, .ref ahd, .int (nI K), .int (nI Hn)])), (bk, .inr (0, [.ref alt, .ref abd, .ref aeg, .ref abr, .ref ask, .ref ash, .ref ast, .int (nI sn), .int yr])), (alt, .inl (cI, 5, .inl lt)), (abd, .inl (cI, 5, .inl bd)), (aeg, .inl (cI, 5, .inl eg))] sz)) (va_A [(vd, .inr (5, [.ref pg, .ref co, .ref bk, .ref kb, .ref mt, .ref rn, .int im, .int tr])), (co, .inr (2, [.ref akd, .ref afa, .ref ahd, .int (nI K), .int (nI Hn)])), (bk, .inr (0, [.ref alt, .ref abd, .ref aeg, .ref abr, .ref ask, .ref ash, .ref ast, .int (nI sn), .int yr])), (alt, .inl (cI, 5, .inl lt)), (abd, .inl (cI, 5, .inl bd)), (aeg, .inl (cI, 5, .inl eg))] sz)) 0 0 (va_A [(vd, .inr (5, [.ref pg, .ref co, .ref bk, .ref kb, .ref mt, .ref rn, .int im, .int tr])), (co, .inr (2, [.ref akd, .ref afa, .ref ahd, .int (nI K), .int (nI Hn)])), (bk, .inr (0, [.ref alt, .ref abd, .ref aeg, .ref abr, .ref ask, .ref ash, .ref ast, .int (nI sn), .int yr])), (alt, .inl (cI, 5, .inl lt)), (abd, .inl (cI, 5, .inl bd)), (aeg, .inl (cI, 5, .inl eg))] sz) := by
  refine Met.ofW (cc := cX5_leave) (maxL := 3) (ret := (some .int)) (by decide) rfl ?_
  intro p e s m args below meth c s₁ B hml hv
  obtain ⟨rfl, hsz, hP, hD0, hE⟩ := hv
  have hx := B.exec
  have hb := B.bytes
  have hr := B.returns
  have hts := atoms_spec (ws := wsX5_leave) B.pre
  have hown : s.vm.findClass RX5 = some m.cls := findClass_of_methodNamed B.named
  have hlocks := B.notSynchronized
  subst hsz
  have hD := hD0.self (sz := s.heap.size)
  generalize hAe : va_A [(vd, .inr (5, [.ref pg, .ref co, .ref bk, .ref kb, .ref mt, .ref rn, .int im, .int tr])), (co, .inr (2, [.ref akd, .ref afa, .ref ahd, .int (nI K), .int (nI Hn)])), (bk, .inr (0, [.ref alt, .ref abd, .ref aeg, .ref abr, .ref ask, .ref ash, .ref ast, .int (nI sn), .int yr])), (alt, .inl (cI, 5, .inl lt)), (abd, .inl (cI, 5, .inl bd)), (aeg, .inl (cI, 5, .inl eg))] s.heap.size = A at hD ⊢
  have hA : ∀ q : Nat, s.heap.size ≤ q → A q := fun q h => by rw [← hAe]; exact Or.inr h
  have hS : va_S A s.heap s.heap [] := va_S.rf
  have hP : va_P D vwCl [(vd, .inr (5, [.ref pg, .ref co, .ref bk, .ref kb, .ref mt, .ref rn, .int im, .int tr])), (co, .inr (2, [.ref akd, .ref afa, .ref ahd, .int (nI K), .int (nI Hn)])), (bk, .inr (0, [.ref alt, .ref abd, .ref aeg, .ref abr, .ref ask, .ref ash, .ref ast, .int (nI sn), .int yr])), (alt, .inl (cI, 5, .inl lt)), (abd, .inl (cI, 5, .inl bd)), (aeg, .inl (cI, 5, .inl eg))] s.heap := hP
  have hD : va_D A [(vd, .inr (5, [.ref pg, .ref co, .ref bk, .ref kb, .ref mt, .ref rn, .int im, .int tr])), (co, .inr (2, [.ref akd, .ref afa, .ref ahd, .int (nI K), .int (nI Hn)])), (bk, .inr (0, [.ref alt, .ref abd, .ref aeg, .ref abr, .ref ask, .ref ash, .ref ast, .int (nI sn), .int yr])), (alt, .inl (cI, 5, .inl lt)), (abd, .inl (cI, 5, .inl bd)), (aeg, .inl (cI, 5, .inl eg))] := hD
  have hl := lv_entry ([.ref vd, .int h]) (n := 3) (Nat.le_of_ble_eq_true rfl)
  rw [lg_entry_eq]
  generalize (lg_sl ([.ref vd, .int h]) ++ List.replicate (3 - (lg_sl ([.ref vd, .int h])).length) Slot.unset).toArray = ls at hl ⊢
  have hl : lv_has ls 3 [(0, .ref vd), (1, .int h)] := hl
  have hinX0 : ∀ w ∈ wsX00, w ∈ wsX5_leave := fun w h => List.mem_cons_of_mem _ (List.mem_append_left _ (List.mem_append_right _ h))
  have hinX5 : ∀ w ∈ wsX50, w ∈ wsX5_leave := fun w h => List.mem_cons_of_mem _ (List.mem_append_left _ (List.mem_append_left _ (List.mem_append_right _ h)))
  have k_0 := hts (.fieldLink RX5 19 "VowDoves" "cote" "LVowDoves$Cote;") (by decide +kernel)
  have k_1 := hts (.fieldLink RX5 26 "VowDoves" "book" "LVowDoves$Book;") (by decide +kernel)
  have k_2 := hts (.fieldLink RX5 123 "VowDoves$Book" "birds" "[I") (by decide +kernel)
  have k_3 := hts (.fieldLink RX5 126 "VowDoves$Book" "eggs" "[I") (by decide +kernel)
  refine lv_aload_n hx hb dX5_leave_0 rfl (lv_at hl 0 rfl) ?_
  refine va_get (D := D) (ci := 5) (v := .ref co) (C := RX5) (T := TX5) (N := 8) hx hb hts hinX5 hown hE.1 hP 0 rfl rfl 1 (by decide) k_0 (fun _ h9 => h9) rfl dX5_leave_1 ?_
  refine lv_iload_n hx hb dX5_leave_4 rfl (lv_at hl 1 rfl) ?_
  refine z_roVi (As := [.int h]) (rest := []) ⟨hx, hb, hml, hown, hts⟩ (c_X2_hasHole l D cI cZ cA co akd afa ahd K Hn h ) (cwV 1 hts gX5_leave_X2_hasHole rfl rfl rfl (by decide +kernel) ⟨Nat.le_of_ble_eq_true rfl, Nat.le_of_ble_eq_true rfl⟩) hE hP [1] rfl 0 2 rfl rfl rfl hl.1 rfl (Nat.le_of_ble_eq_true rfl) dX5_leave_5 ⟨Nat.zero_le _, Nat.zero_le _⟩ ?_
  refine lv_if_ne (tgt := 14) hx hb dX5_leave_8 (by decide) (fun c_8 => ?_) (fun c_8 => ?_)
  · have c_8 := zb_1 c_8
    obtain ⟨j, hj, ej⟩ := z_ix c_8 (by omega)
    have tj : h.toNatClampNeg = j := by rw [ej, nI_clamp (by omega)]
    refine lv_aload_n hx hb dX5_leave_14 rfl (lv_at hl 0 rfl) ?_
    refine va_get (D := D) (ci := 5) (v := .ref bk) (C := RX5) (T := TX5) (N := 8) hx hb hts hinX5 hown hE.1 hP 0 rfl rfl 2 (by decide) k_1 (fun _ h9 => h9) rfl dX5_leave_15 ?_
    refine va_get (D := D) (ci := 0) (v := .ref abd) (C := RX0) (T := TX0) (N := 9) hx hb hts hinX0 hown hE.1 hP 2 rfl rfl 1 (by decide) k_2 (fun _ h9 => h9) rfl dX5_leave_18 ?_
    refine lv_iload_n hx hb dX5_leave_21 rfl (lv_at hl 1 rfl) ?_
    refine z_iald hx hb hE hP 4 rfl (j := j) ej (by omega) (by decide) dX5_leave_22 ?_
    refine lv_iconst (v := 1) hx hb dX5_leave_23 (by decide) ?_
    refine lv_icmp_eq (tgt := 30) hx hb dX5_leave_24 (by decide) (fun c_24 => ?_) (fun c_24 => ?_)
    · refine lv_aload_n hx hb dX5_leave_30 rfl (lv_at hl 0 rfl) ?_
      refine va_get (D := D) (ci := 5) (v := .ref bk) (C := RX5) (T := TX5) (N := 8) hx hb hts hinX5 hown hE.1 hP 0 rfl rfl 2 (by decide) k_1 (fun _ h9 => h9) rfl dX5_leave_31 ?_
      refine va_get (D := D) (ci := 0) (v := .ref aeg) (C := RX0) (T := TX0) (N := 9) hx hb hts hinX0 hown hE.1 hP 2 rfl rfl 2 (by decide) k_3 (fun _ h9 => h9) rfl dX5_leave_34 ?_
      refine lv_iload_n hx hb dX5_leave_37 rfl (lv_at hl 1 rfl) ?_
      refine z_iald hx hb hE hP 5 rfl (j := j) ej (by omega) (by decide) dX5_leave_38 ?_
      refine lv_istore_n (lv' := [(2, .int (eg j)), (0, .ref vd), (1, .int h)]) hx hb dX5_leave_39 rfl hl (by decide) rfl (fun ls hl => ?_)
      refine lv_aload_n hx hb dX5_leave_40 rfl (lv_at hl 1 rfl) ?_
      refine va_get (D := D) (ci := 5) (v := .ref bk) (C := RX5) (T := TX5) (N := 8) hx hb hts hinX5 hown hE.1 hP 0 rfl rfl 2 (by decide) k_1 (fun _ h9 => h9) rfl dX5_leave_41 ?_
      refine lv_iload_n hx hb dX5_leave_44 rfl (lv_at hl 2 rfl) ?_
      refine lv_iconst (v := 0) hx hb dX5_leave_45 (by decide) ?_
      refine W.eq (g2 := F0 m 46 ls [.int 0, .int (nI j), .ref bk]) (by rw [show (h : Int32) = nI j from ej]) ?_
      refine z_rwVv (As := [.int (nI j), .int 0]) (rest := []) (wr := [(vd, .inr (5, [.ref pg, .ref co, .ref bk, .ref kb, .ref mt, .ref rn, .int im, .int tr])), (co, .inr (2, [.ref akd, .ref afa, .ref ahd, .int (nI K), .int (nI Hn)]))]) (w1 := [(bk, .inr (0, [.ref alt, .ref abd, .ref aeg, .ref abr, .ref ask, .ref ash, .ref ast, .int (nI sn), .int yr])), (alt, .inl (cI, 5, .inl (upd lt j (-1)))), (abd, .inl (cI, 5, .inl (upd bd j 0))), (aeg, .inl (cI, 5, .inl (upd eg j 0)))]) ⟨hx, hb, hml, hown, hts⟩ (c_X0_empty l D cI cZ cA _ bk alt abd aeg abr ask ash ast sn yr lt bd eg j 0 (by first | assumption | omega)) (cwV 2 hts gX5_leave_X0_empty rfl rfl rfl (by decide +kernel) ⟨Nat.le_of_ble_eq_true rfl, Nat.le_of_ble_eq_true rfl⟩) hE hP hD hS hA [2, 3, 4, 5] [0, 1] rfl rfl rfl (by decide) (by decide) (by decide) 0 0 rfl rfl rfl hl.1 rfl (Nat.le_of_ble_eq_true rfl) dX5_leave_46 ⟨Nat.zero_le _, Nat.zero_le _⟩ (fun H locs hP hD hS => ?_)
      have hP : va_P D vwCl [(vd, .inr (5, [.ref pg, .ref co, .ref bk, .ref kb, .ref mt, .ref rn, .int im, .int tr])), (co, .inr (2, [.ref akd, .ref afa, .ref ahd, .int (nI K), .int (nI Hn)])), (bk, .inr (0, [.ref alt, .ref abd, .ref aeg, .ref abr, .ref ask, .ref ash, .ref ast, .int (nI sn), .int yr])), (alt, .inl (cI, 5, .inl (upd lt j (-1)))), (abd, .inl (cI, 5, .inl (upd bd j 0))), (aeg, .inl (cI, 5, .inl (upd eg j 0)))] H := hP
      have hD : va_D A [(vd, .inr (5, [.ref pg, .ref co, .ref bk, .ref kb, .ref mt, .ref rn, .int im, .int tr])), (co, .inr (2, [.ref akd, .ref afa, .ref ahd, .int (nI K), .int (nI Hn)])), (bk, .inr (0, [.ref alt, .ref abd, .ref aeg, .ref abr, .ref ask, .ref ash, .ref ast, .int (nI sn), .int yr])), (alt, .inl (cI, 5, .inl (upd lt j (-1)))), (abd, .inl (cI, 5, .inl (upd bd j 0))), (aeg, .inl (cI, 5, .inl (upd eg j 0)))] := hD
      refine lv_iload_n hx hb dX5_leave_49 rfl (lv_at hl 0 rfl) ?_
      have e9 : (fLeaveC lt bd eg Hn h) = (eg j, upd lt j (-1), upd bd j 0, upd eg j 0) := (by unfold fLeaveC; grind)
      have hP9 := hP.sub (ws' := [(vd, .inr (5, [.ref pg, .ref co, .ref bk, .ref kb, .ref mt, .ref rn, .int im, .int tr])), (co, .inr (2, [.ref akd, .ref afa, .ref ahd, .int (nI K), .int (nI Hn)])), (bk, .inr (0, [.ref alt, .ref abd, .ref aeg, .ref abr, .ref ask, .ref ash, .ref ast, .int (nI sn), .int yr])), (alt, .inl (cI, 5, .inl ((fLeaveC lt bd eg Hn h).2.1))), (abd, .inl (cI, 5, .inl ((fLeaveC lt bd eg Hn h).2.2.1))), (aeg, .inl (cI, 5, .inl ((fLeaveC lt bd eg Hn h).2.2.2)))]) [0, 1, 2, 3, 4, 5] (by rw [e9]; try rfl)
      have hD9 := hD.sub (ws' := [(vd, .inr (5, [.ref pg, .ref co, .ref bk, .ref kb, .ref mt, .ref rn, .int im, .int tr])), (co, .inr (2, [.ref akd, .ref afa, .ref ahd, .int (nI K), .int (nI Hn)])), (bk, .inr (0, [.ref alt, .ref abd, .ref aeg, .ref abr, .ref ask, .ref ash, .ref ast, .int (nI sn), .int yr])), (alt, .inl (cI, 5, .inl ((fLeaveC lt bd eg Hn h).2.1))), (abd, .inl (cI, 5, .inl ((fLeaveC lt bd eg Hn h).2.2.1))), (aeg, .inl (cI, 5, .inl ((fLeaveC lt bd eg Hn h).2.2.2)))]) [0, 1, 2, 3, 4, 5] (by decide) (by rw [e9]; try rfl)
      exact W.iret (v := eg j) hx hb hr (fun t ht hW => ⟨⟨(eg j), (), rfl, (by rw [e9]; try rfl), by rw [ht]; exact hP9, hD9⟩, hS.F ht⟩) hS.2.2 dX5_leave_50
    · refine lv_bipush (v := (-103)) hx hb dX5_leave_27 (by decide) ?_
      have e9 : (fLeaveC lt bd eg Hn h) = ((-103), lt, bd, eg) := (by unfold fLeaveC; grind)
      have hP9 := hP.sub (ws' := [(vd, .inr (5, [.ref pg, .ref co, .ref bk, .ref kb, .ref mt, .ref rn, .int im, .int tr])), (co, .inr (2, [.ref akd, .ref afa, .ref ahd, .int (nI K), .int (nI Hn)])), (bk, .inr (0, [.ref alt, .ref abd, .ref aeg, .ref abr, .ref ask, .ref ash, .ref ast, .int (nI sn), .int yr])), (alt, .inl (cI, 5, .inl ((fLeaveC lt bd eg Hn h).2.1))), (abd, .inl (cI, 5, .inl ((fLeaveC lt bd eg Hn h).2.2.1))), (aeg, .inl (cI, 5, .inl ((fLeaveC lt bd eg Hn h).2.2.2)))]) [0, 1, 2, 3, 4, 5] (by rw [e9]; try rfl)
      have hD9 := hD.sub (ws' := [(vd, .inr (5, [.ref pg, .ref co, .ref bk, .ref kb, .ref mt, .ref rn, .int im, .int tr])), (co, .inr (2, [.ref akd, .ref afa, .ref ahd, .int (nI K), .int (nI Hn)])), (bk, .inr (0, [.ref alt, .ref abd, .ref aeg, .ref abr, .ref ask, .ref ash, .ref ast, .int (nI sn), .int yr])), (alt, .inl (cI, 5, .inl ((fLeaveC lt bd eg Hn h).2.1))), (abd, .inl (cI, 5, .inl ((fLeaveC lt bd eg Hn h).2.2.1))), (aeg, .inl (cI, 5, .inl ((fLeaveC lt bd eg Hn h).2.2.2)))]) [0, 1, 2, 3, 4, 5] (by decide) (by rw [e9]; try rfl)
      exact W.iret (v := (-103)) hx hb hr (fun t ht hW => ⟨⟨(-103), (), rfl, (by rw [e9]; try rfl), by rw [ht]; exact hP9, hD9⟩, hS.F ht⟩) hS.2.2 dX5_leave_29
  · have c_8 := zb_0 c_8
    refine lv_bipush (v := (-101)) hx hb dX5_leave_11 (by decide) ?_
    have e9 : (fLeaveC lt bd eg Hn h) = ((-101), lt, bd, eg) := (by unfold fLeaveC; grind)
    have hP9 := hP.sub (ws' := [(vd, .inr (5, [.ref pg, .ref co, .ref bk, .ref kb, .ref mt, .ref rn, .int im, .int tr])), (co, .inr (2, [.ref akd, .ref afa, .ref ahd, .int (nI K), .int (nI Hn)])), (bk, .inr (0, [.ref alt, .ref abd, .ref aeg, .ref abr, .ref ask, .ref ash, .ref ast, .int (nI sn), .int yr])), (alt, .inl (cI, 5, .inl ((fLeaveC lt bd eg Hn h).2.1))), (abd, .inl (cI, 5, .inl ((fLeaveC lt bd eg Hn h).2.2.1))), (aeg, .inl (cI, 5, .inl ((fLeaveC lt bd eg Hn h).2.2.2)))]) [0, 1, 2, 3, 4, 5] (by rw [e9]; try rfl)
    have hD9 := hD.sub (ws' := [(vd, .inr (5, [.ref pg, .ref co, .ref bk, .ref kb, .ref mt, .ref rn, .int im, .int tr])), (co, .inr (2, [.ref akd, .ref afa, .ref ahd, .int (nI K), .int (nI Hn)])), (bk, .inr (0, [.ref alt, .ref abd, .ref aeg, .ref abr, .ref ask, .ref ash, .ref ast, .int (nI sn), .int yr])), (alt, .inl (cI, 5, .inl ((fLeaveC lt bd eg Hn h).2.1))), (abd, .inl (cI, 5, .inl ((fLeaveC lt bd eg Hn h).2.2.1))), (aeg, .inl (cI, 5, .inl ((fLeaveC lt bd eg Hn h).2.2.2)))]) [0, 1, 2, 3, 4, 5] (by decide) (by rw [e9]; try rfl)
    exact W.iret (v := (-101)) hx hb hr (fun t ht hW => ⟨⟨(-101), (), rfl, (by rw [e9]; try rfl), by rw [ht]; exact hP9, hD9⟩, hS.F ht⟩) hS.2.2 dX5_leave_13

set_option maxHeartbeats 1000000 in
set_option maxRecDepth 100000 in
theorem c_X5_year (l : Launch) (D : va_G) (cI cZ cA : ClassId) (sz : Nat) (vd : Nat) (pg : Nat) (co : Nat) (bk : Nat) (kb : Nat) (mt : Nat) (rn : Nat) (im : Int32) (tr : Int32) (akd : Nat) (afa : Nat) (ahd : Nat) (K : Nat) (Hn : Nat) (alt : Nat) (abd : Nat) (aeg : Nat) (abr : Nat) (ask : Nat) (ash : Nat) (ast : Nat) (sn : Nat) (yr : Int32) (kd : Nat → Int32) (lt : Nat → Int32) (bd : Nat → Int32) (eg : Nat → Int32) (br : Nat → Int32) (kept : Int32) (hK : K ≤ 5) (hH : Hn ≤ 5) : Met l yX5_year wsX5_year (zr 3) (va_Pc [.ref vd, .int kept] (zPw D cI cZ cA [(vd, .inr (5, [.ref pg, .ref co, .ref bk, .ref kb, .ref mt, .ref rn, .int im, .int tr])), (co, .inr (2, [.ref akd, .ref afa, .ref ahd, .int (nI K), .int (nI Hn)])), (akd, .inl (cI, 5, .inl kd)), (bk, .inr (0, [.ref alt, .ref abd, .ref aeg, .ref abr, .ref ask, .ref ash, .ref ast, .int (nI sn), .int yr])), (alt, .inl (cI, 5, .inl lt)), (abd, .inl (cI, 5, .inl bd)), (aeg, .inl (cI, 5, .inl eg)), (abr, .inl (cI, 5, .inl br))] sz)) (va_Qi (fun (r : Int32) (_ : Unit) => r = (fYearC kd lt bd eg br K Hn yr kept).1) (zB D [(vd, .inr (5, [.ref pg, .ref co, .ref bk, .ref kb, .ref mt, .ref rn, .int im, .int tr])), (co, .inr (2, [.ref akd, .ref afa, .ref ahd, .int (nI K), .int (nI Hn)])), (akd, .inl (cI, 5, .inl kd)), (bk, .inr (0, [.ref alt, .ref abd, .ref aeg, .ref abr, .ref ask, .ref ash, .ref ast, .int (nI sn), .int ((fYearC kd lt bd eg br K Hn yr kept).2.1)])), (alt, .inl (cI, 5, .inl ((fYearC kd lt bd eg br K Hn yr kept).2.2.1))), (abd, .inl (cI, 5, .inl ((fYearC kd lt bd eg br K Hn yr kept).2.2.2.1))), (aeg, .inl (cI, 5, .inl ((fYearC kd lt bd eg br K Hn yr kept).2.2.2.2.1))), (abr, .inl (cI, 5, .inl ((fYearC kd lt bd eg br K Hn yr kept).2.2.2.2.2)))] (va_A [(vd, .inr (5, [.ref pg, .ref co, .ref bk, .ref kb, .ref mt, .ref rn, .int im, .int tr])), (co, .inr (2, [.ref akd, .ref afa, .ref ahd, .int (nI K), .int (nI Hn)])), (akd, .inl (cI, 5, .inl kd)), (bk, .inr (0, [.ref alt, .ref abd, .ref aeg, .ref abr, .ref ask, .ref ash, .ref ast, .int (nI sn), .int yr])), (alt, .inl (cI, 5, .inl lt)), (abd, .inl (cI, 5, .inl bd)), (aeg, .inl (cI, 5, .inl eg)), (abr, .inl (cI, 5, .inl br))] sz)) (va_A [(vd, .inr (5, [.ref pg, .ref co, .ref bk, .ref kb, .ref mt, .ref rn, .int im, .int tr])), (co, .inr (2, [.ref akd, .ref afa, .ref ahd, .int (nI K), .int (nI Hn)])), (akd, .inl (cI, 5, .inl kd)), (bk, .inr (0, [.ref alt, .ref abd, .ref aeg, .ref abr, .ref ask, .ref ash, .ref ast, .int (nI sn), .int yr])), (alt, .inl (cI, 5, .inl lt)), (abd, .inl (cI, 5, .inl bd)), (aeg, .inl (cI, 5, .inl eg)), (abr, .inl (cI, 5, .inl br))] sz)) 0 0 (va_A [(vd, .inr (5, [.ref pg, .ref co, .ref bk, .ref kb, .ref mt, .ref rn, .int im, .int tr])), (co, .inr (2, [.ref akd, .ref afa, .ref ahd, .int (nI K), .int (nI Hn)])), (akd, .inl (cI, 5, .inl kd)), (bk, .inr (0, [.ref alt, .ref abd, .ref aeg, .ref abr, .ref ask, .ref ash, .ref ast, .int (nI sn), .int yr])), (alt, .inl (cI, 5, .inl lt)), (abd, .inl (cI, 5, .inl bd)), (aeg, .inl (cI, 5, .inl eg)), (abr, .inl (cI, 5, .inl br))] sz) := by
  refine Met.ofW (cc := cX5_year) (maxL := 5) (ret := (some .int)) (by decide) rfl ?_
  intro p e s m args below meth c s₁ B hml hv
  obtain ⟨rfl, hsz, hP, hD0, hE⟩ := hv
  have hx := B.exec
  have hb := B.bytes
  have hr := B.returns
  have hts := atoms_spec (ws := wsX5_year) B.pre
  have hown : s.vm.findClass RX5 = some m.cls := findClass_of_methodNamed B.named
  have hlocks := B.notSynchronized
  subst hsz
  have hD := hD0.self (sz := s.heap.size)
  generalize hAe : va_A [(vd, .inr (5, [.ref pg, .ref co, .ref bk, .ref kb, .ref mt, .ref rn, .int im, .int tr])), (co, .inr (2, [.ref akd, .ref afa, .ref ahd, .int (nI K), .int (nI Hn)])), (akd, .inl (cI, 5, .inl kd)), (bk, .inr (0, [.ref alt, .ref abd, .ref aeg, .ref abr, .ref ask, .ref ash, .ref ast, .int (nI sn), .int yr])), (alt, .inl (cI, 5, .inl lt)), (abd, .inl (cI, 5, .inl bd)), (aeg, .inl (cI, 5, .inl eg)), (abr, .inl (cI, 5, .inl br))] s.heap.size = A at hD ⊢
  have hA : ∀ q : Nat, s.heap.size ≤ q → A q := fun q h => by rw [← hAe]; exact Or.inr h
  have hS : va_S A s.heap s.heap [] := va_S.rf
  have hP : va_P D vwCl [(vd, .inr (5, [.ref pg, .ref co, .ref bk, .ref kb, .ref mt, .ref rn, .int im, .int tr])), (co, .inr (2, [.ref akd, .ref afa, .ref ahd, .int (nI K), .int (nI Hn)])), (akd, .inl (cI, 5, .inl kd)), (bk, .inr (0, [.ref alt, .ref abd, .ref aeg, .ref abr, .ref ask, .ref ash, .ref ast, .int (nI sn), .int yr])), (alt, .inl (cI, 5, .inl lt)), (abd, .inl (cI, 5, .inl bd)), (aeg, .inl (cI, 5, .inl eg)), (abr, .inl (cI, 5, .inl br))] s.heap := hP
  have hD : va_D A [(vd, .inr (5, [.ref pg, .ref co, .ref bk, .ref kb, .ref mt, .ref rn, .int im, .int tr])), (co, .inr (2, [.ref akd, .ref afa, .ref ahd, .int (nI K), .int (nI Hn)])), (akd, .inl (cI, 5, .inl kd)), (bk, .inr (0, [.ref alt, .ref abd, .ref aeg, .ref abr, .ref ask, .ref ash, .ref ast, .int (nI sn), .int yr])), (alt, .inl (cI, 5, .inl lt)), (abd, .inl (cI, 5, .inl bd)), (aeg, .inl (cI, 5, .inl eg)), (abr, .inl (cI, 5, .inl br))] := hD
  have hl := lv_entry ([.ref vd, .int kept]) (n := 5) (Nat.le_of_ble_eq_true rfl)
  rw [lg_entry_eq]
  generalize (lg_sl ([.ref vd, .int kept]) ++ List.replicate (5 - (lg_sl ([.ref vd, .int kept])).length) Slot.unset).toArray = ls at hl ⊢
  have hl : lv_has ls 5 [(0, .ref vd), (1, .int kept)] := hl
  have hinX0 : ∀ w ∈ wsX00, w ∈ wsX5_year := fun w h => List.mem_cons_of_mem _ (List.mem_append_right _ h)
  have hinX2 : ∀ w ∈ wsX20, w ∈ wsX5_year := fun w h => List.mem_cons_of_mem _ (List.mem_append_left _ (List.mem_append_right _ h))
  have hinX5 : ∀ w ∈ wsX50, w ∈ wsX5_year := fun w h => List.mem_cons_of_mem _ (List.mem_append_left _ (List.mem_append_left _ (List.mem_append_right _ h)))
  have k_0 := hts (.fieldLink RX5 19 "VowDoves" "cote" "LVowDoves$Cote;") (by decide +kernel)
  have k_1 := hts (.fieldLink RX5 77 "VowDoves$Cote" "holes" "I") (by decide +kernel)
  have k_2 := hts (.fieldLink RX5 26 "VowDoves" "book" "LVowDoves$Book;") (by decide +kernel)
  have k_3 := hts (.fieldLink RX5 144 "VowDoves$Book" "years" "I") (by decide +kernel)
  have k_4 := hts (.fieldLink RX5 120 "VowDoves$Book" "letTo" "[I") (by decide +kernel)
  have k_5 := hts (.fieldLink RX5 97 "VowDoves$Book" "broken" "[I") (by decide +kernel)
  have k_6 := hts (.fieldLink RX5 126 "VowDoves$Book" "eggs" "[I") (by decide +kernel)
  refine lv_iload_n hx hb dX5_year_0 rfl (lv_at hl 1 rfl) ?_
  refine lv_if_lt (tgt := 17) hx hb dX5_year_1 (by decide) (fun c_1 => ?_) (fun c_1 => ?_)
  · refine lv_bipush (v := (-102)) hx hb dX5_year_17 (by decide) ?_
    have e9 : (fYearC kd lt bd eg br K Hn yr kept) = ((-102), yr, lt, bd, eg, br) := (by unfold fYearC; grind)
    have hP9 := hP.sub (ws' := [(vd, .inr (5, [.ref pg, .ref co, .ref bk, .ref kb, .ref mt, .ref rn, .int im, .int tr])), (co, .inr (2, [.ref akd, .ref afa, .ref ahd, .int (nI K), .int (nI Hn)])), (akd, .inl (cI, 5, .inl kd)), (bk, .inr (0, [.ref alt, .ref abd, .ref aeg, .ref abr, .ref ask, .ref ash, .ref ast, .int (nI sn), .int ((fYearC kd lt bd eg br K Hn yr kept).2.1)])), (alt, .inl (cI, 5, .inl ((fYearC kd lt bd eg br K Hn yr kept).2.2.1))), (abd, .inl (cI, 5, .inl ((fYearC kd lt bd eg br K Hn yr kept).2.2.2.1))), (aeg, .inl (cI, 5, .inl ((fYearC kd lt bd eg br K Hn yr kept).2.2.2.2.1))), (abr, .inl (cI, 5, .inl ((fYearC kd lt bd eg br K Hn yr kept).2.2.2.2.2)))]) [0, 1, 2, 3, 4, 5, 6, 7] (by rw [e9]; try rfl)
    have hD9 := hD.sub (ws' := [(vd, .inr (5, [.ref pg, .ref co, .ref bk, .ref kb, .ref mt, .ref rn, .int im, .int tr])), (co, .inr (2, [.ref akd, .ref afa, .ref ahd, .int (nI K), .int (nI Hn)])), (akd, .inl (cI, 5, .inl kd)), (bk, .inr (0, [.ref alt, .ref abd, .ref aeg, .ref abr, .ref ask, .ref ash, .ref ast, .int (nI sn), .int ((fYearC kd lt bd eg br K Hn yr kept).2.1)])), (alt, .inl (cI, 5, .inl ((fYearC kd lt bd eg br K Hn yr kept).2.2.1))), (abd, .inl (cI, 5, .inl ((fYearC kd lt bd eg br K Hn yr kept).2.2.2.1))), (aeg, .inl (cI, 5, .inl ((fYearC kd lt bd eg br K Hn yr kept).2.2.2.2.1))), (abr, .inl (cI, 5, .inl ((fYearC kd lt bd eg br K Hn yr kept).2.2.2.2.2)))]) [0, 1, 2, 3, 4, 5, 6, 7] (by decide) (by rw [e9]; try rfl)
    exact W.iret (v := (-102)) hx hb hr (fun t ht hW => ⟨⟨(-102), (), rfl, (by rw [e9]; try rfl), by rw [ht]; exact hP9, hD9⟩, hS.F ht⟩) hS.2.2 dX5_year_19
  · refine lv_iload_n hx hb dX5_year_4 rfl (lv_at hl 1 rfl) ?_
    refine lv_iconst (v := 1) hx hb dX5_year_5 (by decide) ?_
    refine lv_aload_n hx hb dX5_year_6 rfl (lv_at hl 0 rfl) ?_
    refine va_get (D := D) (ci := 5) (v := .ref co) (C := RX5) (T := TX5) (N := 8) hx hb hts hinX5 hown hE.1 hP 0 rfl rfl 1 (by decide) k_0 (fun _ h9 => h9) rfl dX5_year_7 ?_
    refine va_get (D := D) (ci := 2) (v := .int (nI Hn)) (C := RX2) (T := TX2) (N := 5) hx hb hts hinX2 hown hE.1 hP 1 rfl rfl 4 (by decide) k_1 (fun _ h9 => h9) rfl dX5_year_10 ?_
    refine lv_ishl hx hb dX5_year_13 ?_
    refine lv_icmp_lt (tgt := 20) hx hb dX5_year_14 (by decide) (fun c_14 => ?_) (fun c_14 => ?_)
    · refine lv_aload_n hx hb dX5_year_20 rfl (lv_at hl 0 rfl) ?_
      refine va_get (D := D) (ci := 5) (v := .ref co) (C := RX5) (T := TX5) (N := 8) hx hb hts hinX5 hown hE.1 hP 0 rfl rfl 1 (by decide) k_0 (fun _ h9 => h9) rfl dX5_year_21 ?_
      refine z_roVi (As := []) (rest := []) ⟨hx, hb, hml, hown, hts⟩ (c_X2_stands l D cI cZ cA co akd afa ahd K Hn (by first | assumption | omega)) (cwV 0 hts gX5_year_X2_stands rfl rfl rfl (by decide +kernel) ⟨Nat.le_of_ble_eq_true rfl, Nat.le_of_ble_eq_true rfl⟩) hE hP [1] rfl 0 2 rfl rfl rfl hl.1 rfl (Nat.le_of_ble_eq_true rfl) dX5_year_24 ⟨Nat.zero_le _, Nat.zero_le _⟩ ?_
      refine lv_if_ne (tgt := 33) hx hb dX5_year_27 (by decide) (fun c_27 => ?_) (fun c_27 => ?_)
      · have c_27 := zb_1 c_27
        refine lv_aload_n hx hb dX5_year_33 rfl (lv_at hl 0 rfl) ?_
        refine va_get (D := D) (ci := 5) (v := .ref bk) (C := RX5) (T := TX5) (N := 8) hx hb hts hinX5 hown hE.1 hP 0 rfl rfl 2 (by decide) k_2 (fun _ h9 => h9) rfl dX5_year_34 ?_
        refine va_get (D := D) (ci := 0) (v := .int yr) (C := RX0) (T := TX0) (N := 9) hx hb hts hinX0 hown hE.1 hP 3 rfl rfl 8 (by decide) k_3 (fun _ h9 => h9) rfl dX5_year_37 ?_
        refine lv_bipush (v := 99) hx hb dX5_year_40 (by decide) ?_
        refine lv_icmp_lt (tgt := 48) hx hb dX5_year_42 (by decide) (fun c_42 => ?_) (fun c_42 => ?_)
        · refine lv_aload_n hx hb dX5_year_48 rfl (lv_at hl 0 rfl) ?_
          refine va_get (D := D) (ci := 5) (v := .ref bk) (C := RX5) (T := TX5) (N := 8) hx hb hts hinX5 hown hE.1 hP 0 rfl rfl 2 (by decide) k_2 (fun _ h9 => h9) rfl dX5_year_49 ?_
          refine lv_dup hx hb dX5_year_52 rfl ?_
          refine va_get (D := D) (ci := 0) (v := .int yr) (C := RX0) (T := TX0) (N := 9) hx hb hts hinX0 hown hE.1 hP 3 rfl rfl 8 (by decide) k_3 (fun _ h9 => h9) rfl dX5_year_53 ?_
          refine lv_iconst (v := 1) hx hb dX5_year_56 (by decide) ?_
          refine lv_iadd hx hb dX5_year_57 ?_
          refine va_put (D := D) (ci := 0) (v := .int (yr + 1)) (ty := .int) (C := RX0) (T := TX0) (N := 9) hx hb hts hinX0 tyX0 tyX0_ok nmX0 hown hE.1 hP hD hS 3 rfl rfl 8 (by decide) k_3 (fun _ h9 => h9) rfl (by decide +kernel) rfl rfl (Nat.le_of_ble_eq_true rfl) dX5_year_58 (fun H locs hP hD hS => ?_)
          have hP : va_P D vwCl [(vd, .inr (5, [.ref pg, .ref co, .ref bk, .ref kb, .ref mt, .ref rn, .int im, .int tr])), (co, .inr (2, [.ref akd, .ref afa, .ref ahd, .int (nI K), .int (nI Hn)])), (akd, .inl (cI, 5, .inl kd)), (bk, .inr (0, [.ref alt, .ref abd, .ref aeg, .ref abr, .ref ask, .ref ash, .ref ast, .int (nI sn), .int (yr + 1)])), (alt, .inl (cI, 5, .inl lt)), (abd, .inl (cI, 5, .inl bd)), (aeg, .inl (cI, 5, .inl eg)), (abr, .inl (cI, 5, .inl br))] H := hP
          have hD : va_D A [(vd, .inr (5, [.ref pg, .ref co, .ref bk, .ref kb, .ref mt, .ref rn, .int im, .int tr])), (co, .inr (2, [.ref akd, .ref afa, .ref ahd, .int (nI K), .int (nI Hn)])), (akd, .inl (cI, 5, .inl kd)), (bk, .inr (0, [.ref alt, .ref abd, .ref aeg, .ref abr, .ref ask, .ref ash, .ref ast, .int (nI sn), .int (yr + 1)])), (alt, .inl (cI, 5, .inl lt)), (abd, .inl (cI, 5, .inl bd)), (aeg, .inl (cI, 5, .inl eg)), (abr, .inl (cI, 5, .inl br))] := hD
          refine lv_iconst (v := 0) hx hb dX5_year_61 (by decide) ?_
          refine lv_istore_n (lv' := [(2, .int 0), (0, .ref vd), (1, .int kept)]) hx hb dX5_year_62 rfl hl (by decide) rfl (fun ls hl => ?_)
          refine lv_iconst (v := 0) hx hb dX5_year_63 (by decide) ?_
          refine lv_istore_n (lv' := [(3, .int 0), (2, .int 0), (0, .ref vd), (1, .int kept)]) hx hb dX5_year_64 rfl hl (by decide) rfl (fun ls hl => ?_)
          have hc65_1 : ∀ (n : Nat) (i : Nat), (i ≤ Hn) → (Hn + 1 ≤ i + n) → ∀ (w2 : Int32), w2 = (yCN K kd kept lt bd eg br i).1 → ∀ (w3 : Int32), w3 = nI i → ∀ (wl : Nat → Int32), wl = (yCN K kd kept lt bd eg br i).2.1 → ∀ (wb : Nat → Int32), wb = (yCN K kd kept lt bd eg br i).2.2.1 → ∀ (we : Nat → Int32), we = (yCN K kd kept lt bd eg br i).2.2.2.1 → ∀ (wr : Nat → Int32), wr = (yCN K kd kept lt bd eg br i).2.2.2.2 → ∀ (H : Heap) (locs : List Loc), va_P D vwCl [(vd, .inr (5, [.ref pg, .ref co, .ref bk, .ref kb, .ref mt, .ref rn, .int im, .int tr])), (co, .inr (2, [.ref akd, .ref afa, .ref ahd, .int (nI K), .int (nI Hn)])), (akd, .inl (cI, 5, .inl kd)), (bk, .inr (0, [.ref alt, .ref abd, .ref aeg, .ref abr, .ref ask, .ref ash, .ref ast, .int (nI sn), .int (yr + 1)])), (alt, .inl (cI, 5, .inl wl)), (abd, .inl (cI, 5, .inl wb)), (aeg, .inl (cI, 5, .inl we)), (abr, .inl (cI, 5, .inl wr))] H → va_D A [(vd, .inr (5, [.ref pg, .ref co, .ref bk, .ref kb, .ref mt, .ref rn, .int im, .int tr])), (co, .inr (2, [.ref akd, .ref afa, .ref ahd, .int (nI K), .int (nI Hn)])), (akd, .inl (cI, 5, .inl kd)), (bk, .inr (0, [.ref alt, .ref abd, .ref aeg, .ref abr, .ref ask, .ref ash, .ref ast, .int (nI sn), .int (yr + 1)])), (alt, .inl (cI, 5, .inl wl)), (abd, .inl (cI, 5, .inl wb)), (aeg, .inl (cI, 5, .inl we)), (abr, .inl (cI, 5, .inl wr))] → va_S A s.heap H locs → ∀ (ls : Array Slot), lv_has ls 5 [(3, .int w3), (2, .int w2), (0, .ref vd), (1, .int kept)] → W p l e (headSpec wsX5_year (zr 3)).room s m ([.ref vd, .int kept] : List Value).toArray below meth c H locs 0 0 (MQ below (va_Qi (fun (r : Int32) (_ : Unit) => r = (fYearC kd lt bd eg br K Hn yr kept).1) (zB D [(vd, .inr (5, [.ref pg, .ref co, .ref bk, .ref kb, .ref mt, .ref rn, .int im, .int tr])), (co, .inr (2, [.ref akd, .ref afa, .ref ahd, .int (nI K), .int (nI Hn)])), (akd, .inl (cI, 5, .inl kd)), (bk, .inr (0, [.ref alt, .ref abd, .ref aeg, .ref abr, .ref ask, .ref ash, .ref ast, .int (nI sn), .int ((fYearC kd lt bd eg br K Hn yr kept).2.1)])), (alt, .inl (cI, 5, .inl ((fYearC kd lt bd eg br K Hn yr kept).2.2.1))), (abd, .inl (cI, 5, .inl ((fYearC kd lt bd eg br K Hn yr kept).2.2.2.1))), (aeg, .inl (cI, 5, .inl ((fYearC kd lt bd eg br K Hn yr kept).2.2.2.2.1))), (abr, .inl (cI, 5, .inl ((fYearC kd lt bd eg br K Hn yr kept).2.2.2.2.2)))] A) A) ([.ref vd, .int kept] : List Value).toArray s 0 0 A) (F0 m 65 ls []) := by
            intro n
            induction n with
            | zero => intro i hi hfu; exact absurd hfu (by omega)
            | succ n ihhc65_1 =>
              intro i hi hfu w2 ew2 w3 ew3 wl ewl wb ewb we ewe wr ewr H locs hP hD hS ls hl
              subst ew2
              subst ew3
              subst ewl
              subst ewb
              subst ewe
              subst ewr
              refine lv_iload_n hx hb dX5_year_65 rfl (lv_at hl 0 rfl) ?_
              refine lv_aload_n hx hb dX5_year_66 rfl (lv_at hl 2 rfl) ?_
              refine va_get (D := D) (ci := 5) (v := .ref co) (C := RX5) (T := TX5) (N := 8) hx hb hts hinX5 hown hE.1 hP 0 rfl rfl 1 (by decide) k_0 (fun _ h9 => h9) rfl dX5_year_67 ?_
              refine va_get (D := D) (ci := 2) (v := .int (nI Hn)) (C := RX2) (T := TX2) (N := 5) hx hb hts hinX2 hown hE.1 hP 1 rfl rfl 4 (by decide) k_1 (fun _ h9 => h9) rfl dX5_year_70 ?_
              refine lv_icmp_ge (tgt := 167) hx hb dX5_year_73 (by decide) (fun c_73 => ?_) (fun c_73 => ?_)
              · have n_73 := zn_le (a := Hn) (b := i) rfl rfl c_73 (by omega) (by omega)
                obtain rfl : Hn = i := by omega
                refine lv_iload_n hx hb dX5_year_167 rfl (lv_at hl 1 rfl) ?_
                have e9 : (fYearC kd lt bd eg br K Hn yr kept) = ((yCN K kd kept lt bd eg br Hn).1, yr + 1, (yCN K kd kept lt bd eg br Hn).2.1, (yCN K kd kept lt bd eg br Hn).2.2.1, (yCN K kd kept lt bd eg br Hn).2.2.2.1, (yCN K kd kept lt bd eg br Hn).2.2.2.2) := (by unfold fYearC; grind)
                have hP9 := hP.sub (ws' := [(vd, .inr (5, [.ref pg, .ref co, .ref bk, .ref kb, .ref mt, .ref rn, .int im, .int tr])), (co, .inr (2, [.ref akd, .ref afa, .ref ahd, .int (nI K), .int (nI Hn)])), (akd, .inl (cI, 5, .inl kd)), (bk, .inr (0, [.ref alt, .ref abd, .ref aeg, .ref abr, .ref ask, .ref ash, .ref ast, .int (nI sn), .int ((fYearC kd lt bd eg br K Hn yr kept).2.1)])), (alt, .inl (cI, 5, .inl ((fYearC kd lt bd eg br K Hn yr kept).2.2.1))), (abd, .inl (cI, 5, .inl ((fYearC kd lt bd eg br K Hn yr kept).2.2.2.1))), (aeg, .inl (cI, 5, .inl ((fYearC kd lt bd eg br K Hn yr kept).2.2.2.2.1))), (abr, .inl (cI, 5, .inl ((fYearC kd lt bd eg br K Hn yr kept).2.2.2.2.2)))]) [0, 1, 2, 3, 4, 5, 6, 7] (by rw [e9]; try rfl)
                have hD9 := hD.sub (ws' := [(vd, .inr (5, [.ref pg, .ref co, .ref bk, .ref kb, .ref mt, .ref rn, .int im, .int tr])), (co, .inr (2, [.ref akd, .ref afa, .ref ahd, .int (nI K), .int (nI Hn)])), (akd, .inl (cI, 5, .inl kd)), (bk, .inr (0, [.ref alt, .ref abd, .ref aeg, .ref abr, .ref ask, .ref ash, .ref ast, .int (nI sn), .int ((fYearC kd lt bd eg br K Hn yr kept).2.1)])), (alt, .inl (cI, 5, .inl ((fYearC kd lt bd eg br K Hn yr kept).2.2.1))), (abd, .inl (cI, 5, .inl ((fYearC kd lt bd eg br K Hn yr kept).2.2.2.1))), (aeg, .inl (cI, 5, .inl ((fYearC kd lt bd eg br K Hn yr kept).2.2.2.2.1))), (abr, .inl (cI, 5, .inl ((fYearC kd lt bd eg br K Hn yr kept).2.2.2.2.2)))]) [0, 1, 2, 3, 4, 5, 6, 7] (by decide) (by rw [e9]; try rfl)
                exact W.iret (v := (yCN K kd kept lt bd eg br Hn).1) hx hb hr (fun t ht hW => ⟨⟨((yCN K kd kept lt bd eg br Hn).1), (), rfl, (by rw [e9]; try rfl), by rw [ht]; exact hP9, hD9⟩, hS.F ht⟩) hS.2.2 dX5_year_168
              · have n_73 := zn_nle (a := Hn) (b := i) rfl rfl c_73 (by omega) (by omega)
                refine lv_aload_n hx hb dX5_year_76 rfl (lv_at hl 2 rfl) ?_
                refine va_get (D := D) (ci := 5) (v := .ref bk) (C := RX5) (T := TX5) (N := 8) hx hb hts hinX5 hown hE.1 hP 0 rfl rfl 2 (by decide) k_2 (fun _ h9 => h9) rfl dX5_year_77 ?_
                refine va_get (D := D) (ci := 0) (v := .ref alt) (C := RX0) (T := TX0) (N := 9) hx hb hts hinX0 hown hE.1 hP 3 rfl rfl 0 (by decide) k_4 (fun _ h9 => h9) rfl dX5_year_80 ?_
                refine lv_iload_n hx hb dX5_year_83 rfl (lv_at hl 0 rfl) ?_
                refine z_iald hx hb hE hP 4 rfl (j := i) rfl (by omega) (by decide) dX5_year_84 ?_
                refine lv_istore (lv' := [(4, .int (((yCN K kd kept lt bd eg br i).2.1) i)), (3, .int (nI i)), (2, .int ((yCN K kd kept lt bd eg br i).1)), (0, .ref vd), (1, .int kept)]) hx hb dX5_year_85 hl (by decide) rfl (fun ls hl => ?_)
                refine lv_aload_n hx hb dX5_year_87 rfl (lv_at hl 3 rfl) ?_
                refine va_get (D := D) (ci := 5) (v := .ref co) (C := RX5) (T := TX5) (N := 8) hx hb hts hinX5 hown hE.1 hP 0 rfl rfl 1 (by decide) k_0 (fun _ h9 => h9) rfl dX5_year_88 ?_
                refine lv_iload hx hb dX5_year_91 (lv_at hl 0 rfl) ?_
                refine z_roVi (As := [.int (((yCN K kd kept lt bd eg br i).2.1) i)]) (rest := []) ⟨hx, hb, hml, hown, hts⟩ (c_X2_hasKeeper l D cI cZ cA co akd afa ahd K Hn (((yCN K kd kept lt bd eg br i).2.1) i) ) (cwV 1 hts gX5_year_X2_hasKeeper rfl rfl rfl (by decide +kernel) ⟨Nat.le_of_ble_eq_true rfl, Nat.le_of_ble_eq_true rfl⟩) hE hP [1] rfl 0 2 rfl rfl rfl hl.1 rfl (Nat.le_of_ble_eq_true rfl) dX5_year_93 ⟨Nat.zero_le _, Nat.zero_le _⟩ ?_
                refine lv_if_ne (tgt := 102) hx hb dX5_year_96 (by decide) (fun c_96 => ?_) (fun c_96 => ?_)
                · have c_96 := zb_1 c_96
                  obtain ⟨j, hj, ej⟩ := z_ix c_96 (by omega)
                  have tj : ((yCN K kd kept lt bd eg br i).2.1 i).toNatClampNeg = j := by rw [ej, nI_clamp (by omega)]
                  refine lv_iload_n hx hb dX5_year_102 rfl (lv_at hl 4 rfl) ?_
                  refine lv_iload_n hx hb dX5_year_103 rfl (lv_at hl 1 rfl) ?_
                  refine lv_ishr hx hb dX5_year_104 ?_
                  refine lv_iconst (v := 1) hx hb dX5_year_105 (by decide) ?_
                  refine lv_iand hx hb dX5_year_106 ?_
                  refine lv_iconst (v := 1) hx hb dX5_year_107 (by decide) ?_
                  refine lv_icmp_ne (tgt := 138) hx hb dX5_year_108 (by decide) (fun c_108 => ?_) (fun c_108 => ?_)
                  · refine lv_aload_n hx hb dX5_year_138 rfl (lv_at hl 3 rfl) ?_
                    refine va_get (D := D) (ci := 5) (v := .ref bk) (C := RX5) (T := TX5) (N := 8) hx hb hts hinX5 hown hE.1 hP 0 rfl rfl 2 (by decide) k_2 (fun _ h9 => h9) rfl dX5_year_139 ?_
                    refine va_get (D := D) (ci := 0) (v := .ref abr) (C := RX0) (T := TX0) (N := 9) hx hb hts hinX0 hown hE.1 hP 3 rfl rfl 3 (by decide) k_5 (fun _ h9 => h9) rfl dX5_year_142 ?_
                    refine lv_iload hx hb dX5_year_145 (lv_at hl 0 rfl) ?_
                    refine lv_dup2_11 hx hb dX5_year_147 rfl rfl ?_
                    refine z_iald hx hb hE hP 7 rfl (j := j) ej (by omega) (by decide) dX5_year_148 ?_
                    refine lv_iconst (v := 1) hx hb dX5_year_149 (by decide) ?_
                    refine lv_iadd hx hb dX5_year_150 ?_
                    refine z_iast hx hb hE hP hD hS 7 rfl (j := j) ej (by omega) (by decide) dX5_year_151 (fun H locs hP hD hS => ?_)
                    have hP : va_P D vwCl [(vd, .inr (5, [.ref pg, .ref co, .ref bk, .ref kb, .ref mt, .ref rn, .int im, .int tr])), (co, .inr (2, [.ref akd, .ref afa, .ref ahd, .int (nI K), .int (nI Hn)])), (akd, .inl (cI, 5, .inl kd)), (bk, .inr (0, [.ref alt, .ref abd, .ref aeg, .ref abr, .ref ask, .ref ash, .ref ast, .int (nI sn), .int (yr + 1)])), (alt, .inl (cI, 5, .inl ((yCN K kd kept lt bd eg br i).2.1))), (abd, .inl (cI, 5, .inl ((yCN K kd kept lt bd eg br i).2.2.1))), (aeg, .inl (cI, 5, .inl ((yCN K kd kept lt bd eg br i).2.2.2.1))), (abr, .inl (cI, 5, .inl (upd ((yCN K kd kept lt bd eg br i).2.2.2.2) j ((((yCN K kd kept lt bd eg br i).2.2.2.2) j) + 1))))] H := hP
                    have hD : va_D A [(vd, .inr (5, [.ref pg, .ref co, .ref bk, .ref kb, .ref mt, .ref rn, .int im, .int tr])), (co, .inr (2, [.ref akd, .ref afa, .ref ahd, .int (nI K), .int (nI Hn)])), (akd, .inl (cI, 5, .inl kd)), (bk, .inr (0, [.ref alt, .ref abd, .ref aeg, .ref abr, .ref ask, .ref ash, .ref ast, .int (nI sn), .int (yr + 1)])), (alt, .inl (cI, 5, .inl ((yCN K kd kept lt bd eg br i).2.1))), (abd, .inl (cI, 5, .inl ((yCN K kd kept lt bd eg br i).2.2.1))), (aeg, .inl (cI, 5, .inl ((yCN K kd kept lt bd eg br i).2.2.2.1))), (abr, .inl (cI, 5, .inl (upd ((yCN K kd kept lt bd eg br i).2.2.2.2) j ((((yCN K kd kept lt bd eg br i).2.2.2.2) j) + 1))))] := hD
                    refine lv_aload_n hx hb dX5_year_152 rfl (lv_at hl 3 rfl) ?_
                    refine va_get (D := D) (ci := 5) (v := .ref bk) (C := RX5) (T := TX5) (N := 8) hx hb hts hinX5 hown hE.1 hP 0 rfl rfl 2 (by decide) k_2 (fun _ h9 => h9) rfl dX5_year_153 ?_
                    refine lv_iload_n hx hb dX5_year_156 rfl (lv_at hl 1 rfl) ?_
                    refine lv_iconst (v := 2) hx hb dX5_year_157 (by decide) ?_
                    refine z_rwVv (As := [.int (nI i), .int 2]) (rest := []) (wr := [(vd, .inr (5, [.ref pg, .ref co, .ref bk, .ref kb, .ref mt, .ref rn, .int im, .int tr])), (co, .inr (2, [.ref akd, .ref afa, .ref ahd, .int (nI K), .int (nI Hn)])), (akd, .inl (cI, 5, .inl kd)), (abr, .inl (cI, 5, .inl (upd ((yCN K kd kept lt bd eg br i).2.2.2.2) j ((((yCN K kd kept lt bd eg br i).2.2.2.2) j) + 1))))]) (w1 := [(bk, .inr (0, [.ref alt, .ref abd, .ref aeg, .ref abr, .ref ask, .ref ash, .ref ast, .int (nI sn), .int (yr + 1)])), (alt, .inl (cI, 5, .inl (upd ((yCN K kd kept lt bd eg br i).2.1) i (-1)))), (abd, .inl (cI, 5, .inl (upd ((yCN K kd kept lt bd eg br i).2.2.1) i 2))), (aeg, .inl (cI, 5, .inl (upd ((yCN K kd kept lt bd eg br i).2.2.2.1) i 0)))]) ⟨hx, hb, hml, hown, hts⟩ (c_X0_empty l D cI cZ cA _ bk alt abd aeg abr ask ash ast sn (yr + 1) ((yCN K kd kept lt bd eg br i).2.1) ((yCN K kd kept lt bd eg br i).2.2.1) ((yCN K kd kept lt bd eg br i).2.2.2.1) i 2 (by first | assumption | omega)) (cwV 2 hts gX5_year_X0_empty rfl rfl rfl (by decide +kernel) ⟨Nat.le_of_ble_eq_true rfl, Nat.le_of_ble_eq_true rfl⟩) hE hP hD hS hA [3, 4, 5, 6] [0, 1, 2, 7] rfl rfl rfl (by decide) (by decide) (by decide) 0 0 rfl rfl rfl hl.1 rfl (Nat.le_of_ble_eq_true rfl) dX5_year_158 ⟨Nat.zero_le _, Nat.zero_le _⟩ (fun H locs hP hD hS => ?_)
                    have hP : va_P D vwCl [(vd, .inr (5, [.ref pg, .ref co, .ref bk, .ref kb, .ref mt, .ref rn, .int im, .int tr])), (co, .inr (2, [.ref akd, .ref afa, .ref ahd, .int (nI K), .int (nI Hn)])), (akd, .inl (cI, 5, .inl kd)), (abr, .inl (cI, 5, .inl (upd ((yCN K kd kept lt bd eg br i).2.2.2.2) j ((((yCN K kd kept lt bd eg br i).2.2.2.2) j) + 1)))), (bk, .inr (0, [.ref alt, .ref abd, .ref aeg, .ref abr, .ref ask, .ref ash, .ref ast, .int (nI sn), .int (yr + 1)])), (alt, .inl (cI, 5, .inl (upd ((yCN K kd kept lt bd eg br i).2.1) i (-1)))), (abd, .inl (cI, 5, .inl (upd ((yCN K kd kept lt bd eg br i).2.2.1) i 2))), (aeg, .inl (cI, 5, .inl (upd ((yCN K kd kept lt bd eg br i).2.2.2.1) i 0)))] H := hP
                    have hD : va_D A [(vd, .inr (5, [.ref pg, .ref co, .ref bk, .ref kb, .ref mt, .ref rn, .int im, .int tr])), (co, .inr (2, [.ref akd, .ref afa, .ref ahd, .int (nI K), .int (nI Hn)])), (akd, .inl (cI, 5, .inl kd)), (abr, .inl (cI, 5, .inl (upd ((yCN K kd kept lt bd eg br i).2.2.2.2) j ((((yCN K kd kept lt bd eg br i).2.2.2.2) j) + 1)))), (bk, .inr (0, [.ref alt, .ref abd, .ref aeg, .ref abr, .ref ask, .ref ash, .ref ast, .int (nI sn), .int (yr + 1)])), (alt, .inl (cI, 5, .inl (upd ((yCN K kd kept lt bd eg br i).2.1) i (-1)))), (abd, .inl (cI, 5, .inl (upd ((yCN K kd kept lt bd eg br i).2.2.1) i 2))), (aeg, .inl (cI, 5, .inl (upd ((yCN K kd kept lt bd eg br i).2.2.2.1) i 0)))] := hD
                    refine lv_iinc (v := nI (i + 1)) (lv' := [(3, .int (nI (i + 1))), (4, .int (((yCN K kd kept lt bd eg br i).2.1) i)), (2, .int ((yCN K kd kept lt bd eg br i).1)), (0, .ref vd), (1, .int kept)]) hx hb dX5_year_161 hl (k := 1) rfl (nI_add i 1) (by decide) rfl (fun ls hl => ?_)
                    refine lv_goto (tgt := 65) hx hb dX5_year_164 (by decide) ?_
                    exact ihhc65_1 (i + 1) (by omega) (by omega) ((yCN K kd kept lt bd eg br i).1) (by rw [yCN]; unfold yCst; rw [if_pos c_96, if_neg c_108]) (nI (i + 1)) rfl (upd ((yCN K kd kept lt bd eg br i).2.1) i (-1)) (by rw [yCN]; unfold yCst; rw [if_pos c_96, if_neg c_108]) (upd ((yCN K kd kept lt bd eg br i).2.2.1) i 2) (by rw [yCN]; unfold yCst; rw [if_pos c_96, if_neg c_108]) (upd ((yCN K kd kept lt bd eg br i).2.2.2.1) i 0) (by rw [yCN]; unfold yCst; rw [if_pos c_96, if_neg c_108]) (upd ((yCN K kd kept lt bd eg br i).2.2.2.2) j ((((yCN K kd kept lt bd eg br i).2.2.2.2) j) + 1)) (by rw [yCN]; unfold yCst; rw [if_pos c_96, if_neg c_108, tj]) _ _ (hP.sub [0, 1, 2, 4, 5, 6, 7, 3] rfl) (hD.sub [0, 1, 2, 4, 5, 6, 7, 3] (by decide) rfl) hS ls (lv_sub hl [0, 2, 3, 4] rfl)
                  · refine lv_iinc (v := ((yCN K kd kept lt bd eg br i).1) + 1) (lv' := [(2, .int (((yCN K kd kept lt bd eg br i).1) + 1)), (4, .int (((yCN K kd kept lt bd eg br i).2.1) i)), (3, .int (nI i)), (0, .ref vd), (1, .int kept)]) hx hb dX5_year_111 hl (k := 2) rfl rfl (by decide) rfl (fun ls hl => ?_)
                    refine lv_aload_n hx hb dX5_year_114 rfl (lv_at hl 3 rfl) ?_
                    refine va_get (D := D) (ci := 5) (v := .ref bk) (C := RX5) (T := TX5) (N := 8) hx hb hts hinX5 hown hE.1 hP 0 rfl rfl 2 (by decide) k_2 (fun _ h9 => h9) rfl dX5_year_115 ?_
                    refine va_get (D := D) (ci := 0) (v := .ref aeg) (C := RX0) (T := TX0) (N := 9) hx hb hts hinX0 hown hE.1 hP 3 rfl rfl 2 (by decide) k_6 (fun _ h9 => h9) rfl dX5_year_118 ?_
                    refine lv_iload_n hx hb dX5_year_121 rfl (lv_at hl 2 rfl) ?_
                    refine lv_dup2_11 hx hb dX5_year_122 rfl rfl ?_
                    refine z_iald hx hb hE hP 6 rfl (j := i) rfl (by omega) (by decide) dX5_year_123 ?_
                    refine lv_aload_n hx hb dX5_year_124 rfl (lv_at hl 3 rfl) ?_
                    refine va_get (D := D) (ci := 5) (v := .ref co) (C := RX5) (T := TX5) (N := 8) hx hb hts hinX5 hown hE.1 hP 0 rfl rfl 1 (by decide) k_0 (fun _ h9 => h9) rfl dX5_year_125 ?_
                    refine lv_iload hx hb dX5_year_128 (lv_at hl 1 rfl) ?_
                    refine z_roVi (As := [.int (((yCN K kd kept lt bd eg br i).2.1) i)]) (rest := [.int (((yCN K kd kept lt bd eg br i).2.2.2.1) i), .int (nI i), .ref aeg]) ⟨hx, hb, hml, hown, hts⟩ (c_X2_eggsOfAYear l D cI cZ cA co akd afa ahd K Hn kd (((yCN K kd kept lt bd eg br i).2.1) i) (by first | assumption | omega)) (cwV 1 hts gX5_year_X2_eggsOfAYear rfl rfl rfl (by decide +kernel) ⟨Nat.le_of_ble_eq_true rfl, Nat.le_of_ble_eq_true rfl⟩) hE hP [1, 2] rfl 0 2 rfl rfl rfl hl.1 rfl (Nat.le_of_ble_eq_true rfl) dX5_year_130 ⟨Nat.zero_le _, Nat.zero_le _⟩ ?_
                    refine lv_iadd hx hb dX5_year_133 ?_
                    refine z_iast hx hb hE hP hD hS 6 rfl (j := i) rfl (by omega) (by decide) dX5_year_134 (fun H locs hP hD hS => ?_)
                    have hP : va_P D vwCl [(vd, .inr (5, [.ref pg, .ref co, .ref bk, .ref kb, .ref mt, .ref rn, .int im, .int tr])), (co, .inr (2, [.ref akd, .ref afa, .ref ahd, .int (nI K), .int (nI Hn)])), (akd, .inl (cI, 5, .inl kd)), (bk, .inr (0, [.ref alt, .ref abd, .ref aeg, .ref abr, .ref ask, .ref ash, .ref ast, .int (nI sn), .int (yr + 1)])), (alt, .inl (cI, 5, .inl ((yCN K kd kept lt bd eg br i).2.1))), (abd, .inl (cI, 5, .inl ((yCN K kd kept lt bd eg br i).2.2.1))), (aeg, .inl (cI, 5, .inl (upd ((yCN K kd kept lt bd eg br i).2.2.2.1) i ((((yCN K kd kept lt bd eg br i).2.2.2.1) i) + (eggY K kd (((yCN K kd kept lt bd eg br i).2.1) i)))))), (abr, .inl (cI, 5, .inl ((yCN K kd kept lt bd eg br i).2.2.2.2)))] H := hP
                    have hD : va_D A [(vd, .inr (5, [.ref pg, .ref co, .ref bk, .ref kb, .ref mt, .ref rn, .int im, .int tr])), (co, .inr (2, [.ref akd, .ref afa, .ref ahd, .int (nI K), .int (nI Hn)])), (akd, .inl (cI, 5, .inl kd)), (bk, .inr (0, [.ref alt, .ref abd, .ref aeg, .ref abr, .ref ask, .ref ash, .ref ast, .int (nI sn), .int (yr + 1)])), (alt, .inl (cI, 5, .inl ((yCN K kd kept lt bd eg br i).2.1))), (abd, .inl (cI, 5, .inl ((yCN K kd kept lt bd eg br i).2.2.1))), (aeg, .inl (cI, 5, .inl (upd ((yCN K kd kept lt bd eg br i).2.2.2.1) i ((((yCN K kd kept lt bd eg br i).2.2.2.1) i) + (eggY K kd (((yCN K kd kept lt bd eg br i).2.1) i)))))), (abr, .inl (cI, 5, .inl ((yCN K kd kept lt bd eg br i).2.2.2.2)))] := hD
                    refine lv_goto (tgt := 161) hx hb dX5_year_135 (by decide) ?_
                    refine lv_iinc (v := nI (i + 1)) (lv' := [(3, .int (nI (i + 1))), (2, .int (((yCN K kd kept lt bd eg br i).1) + 1)), (4, .int (((yCN K kd kept lt bd eg br i).2.1) i)), (0, .ref vd), (1, .int kept)]) hx hb dX5_year_161 hl (k := 2) rfl (nI_add i 1) (by decide) rfl (fun ls hl => ?_)
                    refine lv_goto (tgt := 65) hx hb dX5_year_164 (by decide) ?_
                    exact ihhc65_1 (i + 1) (by omega) (by omega) (((yCN K kd kept lt bd eg br i).1) + 1) (by rw [yCN]; unfold yCst; rw [if_pos c_96, if_pos c_108]) (nI (i + 1)) rfl ((yCN K kd kept lt bd eg br i).2.1) (by rw [yCN]; unfold yCst; rw [if_pos c_96, if_pos c_108]) ((yCN K kd kept lt bd eg br i).2.2.1) (by rw [yCN]; unfold yCst; rw [if_pos c_96, if_pos c_108]) (upd ((yCN K kd kept lt bd eg br i).2.2.2.1) i ((((yCN K kd kept lt bd eg br i).2.2.2.1) i) + (eggY K kd (((yCN K kd kept lt bd eg br i).2.1) i)))) (by rw [yCN]; unfold yCst; rw [if_pos c_96, if_pos c_108]) ((yCN K kd kept lt bd eg br i).2.2.2.2) (by rw [yCN]; unfold yCst; rw [if_pos c_96, if_pos c_108]) _ _ (hP.sub [0, 1, 2, 3, 4, 5, 6, 7] rfl) (hD.sub [0, 1, 2, 3, 4, 5, 6, 7] (by decide) rfl) hS ls (lv_sub hl [0, 1, 3, 4] rfl)
                · have c_96 := zb_0 c_96
                  refine lv_goto (tgt := 161) hx hb dX5_year_99 (by decide) ?_
                  refine lv_iinc (v := nI (i + 1)) (lv' := [(3, .int (nI (i + 1))), (4, .int (((yCN K kd kept lt bd eg br i).2.1) i)), (2, .int ((yCN K kd kept lt bd eg br i).1)), (0, .ref vd), (1, .int kept)]) hx hb dX5_year_161 hl (k := 1) rfl (nI_add i 1) (by decide) rfl (fun ls hl => ?_)
                  refine lv_goto (tgt := 65) hx hb dX5_year_164 (by decide) ?_
                  exact ihhc65_1 (i + 1) (by omega) (by omega) ((yCN K kd kept lt bd eg br i).1) (by rw [yCN]; unfold yCst; rw [if_neg c_96]) (nI (i + 1)) rfl ((yCN K kd kept lt bd eg br i).2.1) (by rw [yCN]; unfold yCst; rw [if_neg c_96]) ((yCN K kd kept lt bd eg br i).2.2.1) (by rw [yCN]; unfold yCst; rw [if_neg c_96]) ((yCN K kd kept lt bd eg br i).2.2.2.1) (by rw [yCN]; unfold yCst; rw [if_neg c_96]) ((yCN K kd kept lt bd eg br i).2.2.2.2) (by rw [yCN]; unfold yCst; rw [if_neg c_96]) _ _ (hP.sub [0, 1, 2, 3, 4, 5, 6, 7] rfl) (hD.sub [0, 1, 2, 3, 4, 5, 6, 7] (by decide) rfl) hS ls (lv_sub hl [0, 2, 3, 4] rfl)
          exact hc65_1 (Hn + 1) 0 (by omega) (by omega) 0 rfl 0 rfl lt rfl bd rfl eg rfl br rfl _ _ (hP.sub [0, 1, 2, 3, 4, 5, 6, 7] rfl) (hD.sub [0, 1, 2, 3, 4, 5, 6, 7] (by decide) rfl) hS ls (lv_sub hl [0, 1, 2, 3] rfl)
        · refine lv_bipush (v := (-104)) hx hb dX5_year_45 (by decide) ?_
          have e9 : (fYearC kd lt bd eg br K Hn yr kept) = ((-104), yr, lt, bd, eg, br) := (by unfold fYearC; grind)
          have hP9 := hP.sub (ws' := [(vd, .inr (5, [.ref pg, .ref co, .ref bk, .ref kb, .ref mt, .ref rn, .int im, .int tr])), (co, .inr (2, [.ref akd, .ref afa, .ref ahd, .int (nI K), .int (nI Hn)])), (akd, .inl (cI, 5, .inl kd)), (bk, .inr (0, [.ref alt, .ref abd, .ref aeg, .ref abr, .ref ask, .ref ash, .ref ast, .int (nI sn), .int ((fYearC kd lt bd eg br K Hn yr kept).2.1)])), (alt, .inl (cI, 5, .inl ((fYearC kd lt bd eg br K Hn yr kept).2.2.1))), (abd, .inl (cI, 5, .inl ((fYearC kd lt bd eg br K Hn yr kept).2.2.2.1))), (aeg, .inl (cI, 5, .inl ((fYearC kd lt bd eg br K Hn yr kept).2.2.2.2.1))), (abr, .inl (cI, 5, .inl ((fYearC kd lt bd eg br K Hn yr kept).2.2.2.2.2)))]) [0, 1, 2, 3, 4, 5, 6, 7] (by rw [e9]; try rfl)
          have hD9 := hD.sub (ws' := [(vd, .inr (5, [.ref pg, .ref co, .ref bk, .ref kb, .ref mt, .ref rn, .int im, .int tr])), (co, .inr (2, [.ref akd, .ref afa, .ref ahd, .int (nI K), .int (nI Hn)])), (akd, .inl (cI, 5, .inl kd)), (bk, .inr (0, [.ref alt, .ref abd, .ref aeg, .ref abr, .ref ask, .ref ash, .ref ast, .int (nI sn), .int ((fYearC kd lt bd eg br K Hn yr kept).2.1)])), (alt, .inl (cI, 5, .inl ((fYearC kd lt bd eg br K Hn yr kept).2.2.1))), (abd, .inl (cI, 5, .inl ((fYearC kd lt bd eg br K Hn yr kept).2.2.2.1))), (aeg, .inl (cI, 5, .inl ((fYearC kd lt bd eg br K Hn yr kept).2.2.2.2.1))), (abr, .inl (cI, 5, .inl ((fYearC kd lt bd eg br K Hn yr kept).2.2.2.2.2)))]) [0, 1, 2, 3, 4, 5, 6, 7] (by decide) (by rw [e9]; try rfl)
          exact W.iret (v := (-104)) hx hb hr (fun t ht hW => ⟨⟨(-104), (), rfl, (by rw [e9]; try rfl), by rw [ht]; exact hP9, hD9⟩, hS.F ht⟩) hS.2.2 dX5_year_47
      · have c_27 := zb_0 c_27
        refine lv_bipush (v := (-103)) hx hb dX5_year_30 (by decide) ?_
        have e9 : (fYearC kd lt bd eg br K Hn yr kept) = ((-103), yr, lt, bd, eg, br) := (by unfold fYearC; grind)
        have hP9 := hP.sub (ws' := [(vd, .inr (5, [.ref pg, .ref co, .ref bk, .ref kb, .ref mt, .ref rn, .int im, .int tr])), (co, .inr (2, [.ref akd, .ref afa, .ref ahd, .int (nI K), .int (nI Hn)])), (akd, .inl (cI, 5, .inl kd)), (bk, .inr (0, [.ref alt, .ref abd, .ref aeg, .ref abr, .ref ask, .ref ash, .ref ast, .int (nI sn), .int ((fYearC kd lt bd eg br K Hn yr kept).2.1)])), (alt, .inl (cI, 5, .inl ((fYearC kd lt bd eg br K Hn yr kept).2.2.1))), (abd, .inl (cI, 5, .inl ((fYearC kd lt bd eg br K Hn yr kept).2.2.2.1))), (aeg, .inl (cI, 5, .inl ((fYearC kd lt bd eg br K Hn yr kept).2.2.2.2.1))), (abr, .inl (cI, 5, .inl ((fYearC kd lt bd eg br K Hn yr kept).2.2.2.2.2)))]) [0, 1, 2, 3, 4, 5, 6, 7] (by rw [e9]; try rfl)
        have hD9 := hD.sub (ws' := [(vd, .inr (5, [.ref pg, .ref co, .ref bk, .ref kb, .ref mt, .ref rn, .int im, .int tr])), (co, .inr (2, [.ref akd, .ref afa, .ref ahd, .int (nI K), .int (nI Hn)])), (akd, .inl (cI, 5, .inl kd)), (bk, .inr (0, [.ref alt, .ref abd, .ref aeg, .ref abr, .ref ask, .ref ash, .ref ast, .int (nI sn), .int ((fYearC kd lt bd eg br K Hn yr kept).2.1)])), (alt, .inl (cI, 5, .inl ((fYearC kd lt bd eg br K Hn yr kept).2.2.1))), (abd, .inl (cI, 5, .inl ((fYearC kd lt bd eg br K Hn yr kept).2.2.2.1))), (aeg, .inl (cI, 5, .inl ((fYearC kd lt bd eg br K Hn yr kept).2.2.2.2.1))), (abr, .inl (cI, 5, .inl ((fYearC kd lt bd eg br K Hn yr kept).2.2.2.2.2)))]) [0, 1, 2, 3, 4, 5, 6, 7] (by decide) (by rw [e9]; try rfl)
        exact W.iret (v := (-103)) hx hb hr (fun t ht hW => ⟨⟨(-103), (), rfl, (by rw [e9]; try rfl), by rw [ht]; exact hP9, hD9⟩, hS.F ht⟩) hS.2.2 dX5_year_32
    · refine lv_bipush (v := (-102)) hx hb dX5_year_17 (by decide) ?_
      have e9 : (fYearC kd lt bd eg br K Hn yr kept) = ((-102), yr, lt, bd, eg, br) := (by unfold fYearC; grind)
      have hP9 := hP.sub (ws' := [(vd, .inr (5, [.ref pg, .ref co, .ref bk, .ref kb, .ref mt, .ref rn, .int im, .int tr])), (co, .inr (2, [.ref akd, .ref afa, .ref ahd, .int (nI K), .int (nI Hn)])), (akd, .inl (cI, 5, .inl kd)), (bk, .inr (0, [.ref alt, .ref abd, .ref aeg, .ref abr, .ref ask, .ref ash, .ref ast, .int (nI sn), .int ((fYearC kd lt bd eg br K Hn yr kept).2.1)])), (alt, .inl (cI, 5, .inl ((fYearC kd lt bd eg br K Hn yr kept).2.2.1))), (abd, .inl (cI, 5, .inl ((fYearC kd lt bd eg br K Hn yr kept).2.2.2.1))), (aeg, .inl (cI, 5, .inl ((fYearC kd lt bd eg br K Hn yr kept).2.2.2.2.1))), (abr, .inl (cI, 5, .inl ((fYearC kd lt bd eg br K Hn yr kept).2.2.2.2.2)))]) [0, 1, 2, 3, 4, 5, 6, 7] (by rw [e9]; try rfl)
      have hD9 := hD.sub (ws' := [(vd, .inr (5, [.ref pg, .ref co, .ref bk, .ref kb, .ref mt, .ref rn, .int im, .int tr])), (co, .inr (2, [.ref akd, .ref afa, .ref ahd, .int (nI K), .int (nI Hn)])), (akd, .inl (cI, 5, .inl kd)), (bk, .inr (0, [.ref alt, .ref abd, .ref aeg, .ref abr, .ref ask, .ref ash, .ref ast, .int (nI sn), .int ((fYearC kd lt bd eg br K Hn yr kept).2.1)])), (alt, .inl (cI, 5, .inl ((fYearC kd lt bd eg br K Hn yr kept).2.2.1))), (abd, .inl (cI, 5, .inl ((fYearC kd lt bd eg br K Hn yr kept).2.2.2.1))), (aeg, .inl (cI, 5, .inl ((fYearC kd lt bd eg br K Hn yr kept).2.2.2.2.1))), (abr, .inl (cI, 5, .inl ((fYearC kd lt bd eg br K Hn yr kept).2.2.2.2.2)))]) [0, 1, 2, 3, 4, 5, 6, 7] (by decide) (by rw [e9]; try rfl)
      exact W.iret (v := (-102)) hx hb hr (fun t ht hW => ⟨⟨(-102), (), rfl, (by rw [e9]; try rfl), by rw [ht]; exact hP9, hD9⟩, hS.F ht⟩) hS.2.2 dX5_year_19

set_option maxHeartbeats 1000000 in
set_option maxRecDepth 100000 in
theorem c_X5_forgive (l : Launch) (D : va_G) (cI cZ cA : ClassId) (sz : Nat) (vd : Nat) (pg : Nat) (co : Nat) (bk : Nat) (kb : Nat) (mt : Nat) (rn : Nat) (im : Int32) (tr : Int32) (akd : Nat) (afa : Nat) (ahd : Nat) (K : Nat) (Hn : Nat) (alt : Nat) (abd : Nat) (aeg : Nat) (abr : Nat) (ask : Nat) (ash : Nat) (ast : Nat) (sn : Nat) (yr : Int32) (lt : Nat → Int32) (bd : Nat → Int32) (eg : Nat → Int32) (hH : Hn ≤ 5) : Met l yX5_forgive wsX5_forgive (zr 2) (va_Pc [.ref vd] (zPw D cI cZ cA [(vd, .inr (5, [.ref pg, .ref co, .ref bk, .ref kb, .ref mt, .ref rn, .int im, .int tr])), (co, .inr (2, [.ref akd, .ref afa, .ref ahd, .int (nI K), .int (nI Hn)])), (bk, .inr (0, [.ref alt, .ref abd, .ref aeg, .ref abr, .ref ask, .ref ash, .ref ast, .int (nI sn), .int yr])), (alt, .inl (cI, 5, .inl lt)), (abd, .inl (cI, 5, .inl bd)), (aeg, .inl (cI, 5, .inl eg))] sz)) (va_Qi (fun (r : Int32) (_ : Unit) => r = (fgCN lt bd eg Hn).1) (zB D [(vd, .inr (5, [.ref pg, .ref co, .ref bk, .ref kb, .ref mt, .ref rn, .int im, .int tr])), (co, .inr (2, [.ref akd, .ref afa, .ref ahd, .int (nI K), .int (nI Hn)])), (bk, .inr (0, [.ref alt, .ref abd, .ref aeg, .ref abr, .ref ask, .ref ash, .ref ast, .int (nI sn), .int yr])), (alt, .inl (cI, 5, .inl ((fgCN lt bd eg Hn).2.1))), (abd, .inl (cI, 5, .inl ((fgCN lt bd eg Hn).2.2.1))), (aeg, .inl (cI, 5, .inl ((fgCN lt bd eg Hn).2.2.2)))] (va_A [(vd, .inr (5, [.ref pg, .ref co, .ref bk, .ref kb, .ref mt, .ref rn, .int im, .int tr])), (co, .inr (2, [.ref akd, .ref afa, .ref ahd, .int (nI K), .int (nI Hn)])), (bk, .inr (0, [.ref alt, .ref abd, .ref aeg, .ref abr, .ref ask, .ref ash, .ref ast, .int (nI sn), .int yr])), (alt, .inl (cI, 5, .inl lt)), (abd, .inl (cI, 5, .inl bd)), (aeg, .inl (cI, 5, .inl eg))] sz)) (va_A [(vd, .inr (5, [.ref pg, .ref co, .ref bk, .ref kb, .ref mt, .ref rn, .int im, .int tr])), (co, .inr (2, [.ref akd, .ref afa, .ref ahd, .int (nI K), .int (nI Hn)])), (bk, .inr (0, [.ref alt, .ref abd, .ref aeg, .ref abr, .ref ask, .ref ash, .ref ast, .int (nI sn), .int yr])), (alt, .inl (cI, 5, .inl lt)), (abd, .inl (cI, 5, .inl bd)), (aeg, .inl (cI, 5, .inl eg))] sz)) 0 0 (va_A [(vd, .inr (5, [.ref pg, .ref co, .ref bk, .ref kb, .ref mt, .ref rn, .int im, .int tr])), (co, .inr (2, [.ref akd, .ref afa, .ref ahd, .int (nI K), .int (nI Hn)])), (bk, .inr (0, [.ref alt, .ref abd, .ref aeg, .ref abr, .ref ask, .ref ash, .ref ast, .int (nI sn), .int yr])), (alt, .inl (cI, 5, .inl lt)), (abd, .inl (cI, 5, .inl bd)), (aeg, .inl (cI, 5, .inl eg))] sz) := by
  refine Met.ofW (cc := cX5_forgive) (maxL := 3) (ret := (some .int)) (by decide) rfl ?_
  intro p e s m args below meth c s₁ B hml hv
  obtain ⟨rfl, hsz, hP, hD0, hE⟩ := hv
  have hx := B.exec
  have hb := B.bytes
  have hr := B.returns
  have hts := atoms_spec (ws := wsX5_forgive) B.pre
  have hown : s.vm.findClass RX5 = some m.cls := findClass_of_methodNamed B.named
  have hlocks := B.notSynchronized
  subst hsz
  have hD := hD0.self (sz := s.heap.size)
  generalize hAe : va_A [(vd, .inr (5, [.ref pg, .ref co, .ref bk, .ref kb, .ref mt, .ref rn, .int im, .int tr])), (co, .inr (2, [.ref akd, .ref afa, .ref ahd, .int (nI K), .int (nI Hn)])), (bk, .inr (0, [.ref alt, .ref abd, .ref aeg, .ref abr, .ref ask, .ref ash, .ref ast, .int (nI sn), .int yr])), (alt, .inl (cI, 5, .inl lt)), (abd, .inl (cI, 5, .inl bd)), (aeg, .inl (cI, 5, .inl eg))] s.heap.size = A at hD ⊢
  have hA : ∀ q : Nat, s.heap.size ≤ q → A q := fun q h => by rw [← hAe]; exact Or.inr h
  have hS : va_S A s.heap s.heap [] := va_S.rf
  have hP : va_P D vwCl [(vd, .inr (5, [.ref pg, .ref co, .ref bk, .ref kb, .ref mt, .ref rn, .int im, .int tr])), (co, .inr (2, [.ref akd, .ref afa, .ref ahd, .int (nI K), .int (nI Hn)])), (bk, .inr (0, [.ref alt, .ref abd, .ref aeg, .ref abr, .ref ask, .ref ash, .ref ast, .int (nI sn), .int yr])), (alt, .inl (cI, 5, .inl lt)), (abd, .inl (cI, 5, .inl bd)), (aeg, .inl (cI, 5, .inl eg))] s.heap := hP
  have hD : va_D A [(vd, .inr (5, [.ref pg, .ref co, .ref bk, .ref kb, .ref mt, .ref rn, .int im, .int tr])), (co, .inr (2, [.ref akd, .ref afa, .ref ahd, .int (nI K), .int (nI Hn)])), (bk, .inr (0, [.ref alt, .ref abd, .ref aeg, .ref abr, .ref ask, .ref ash, .ref ast, .int (nI sn), .int yr])), (alt, .inl (cI, 5, .inl lt)), (abd, .inl (cI, 5, .inl bd)), (aeg, .inl (cI, 5, .inl eg))] := hD
  have hl := lv_entry ([.ref vd]) (n := 3) (Nat.le_of_ble_eq_true rfl)
  rw [lg_entry_eq]
  generalize (lg_sl ([.ref vd]) ++ List.replicate (3 - (lg_sl ([.ref vd])).length) Slot.unset).toArray = ls at hl ⊢
  have hl : lv_has ls 3 [(0, .ref vd)] := hl
  have hinX0 : ∀ w ∈ wsX00, w ∈ wsX5_forgive := fun w h => List.mem_cons_of_mem _ (List.mem_append_right _ h)
  have hinX2 : ∀ w ∈ wsX20, w ∈ wsX5_forgive := fun w h => List.mem_cons_of_mem _ (List.mem_append_left _ (List.mem_append_right _ h))
  have hinX5 : ∀ w ∈ wsX50, w ∈ wsX5_forgive := fun w h => List.mem_cons_of_mem _ (List.mem_append_left _ (List.mem_append_left _ (List.mem_append_right _ h)))
  have k_0 := hts (.fieldLink RX5 19 "VowDoves" "cote" "LVowDoves$Cote;") (by decide +kernel)
  have k_1 := hts (.fieldLink RX5 77 "VowDoves$Cote" "holes" "I") (by decide +kernel)
  have k_2 := hts (.fieldLink RX5 26 "VowDoves" "book" "LVowDoves$Book;") (by decide +kernel)
  have k_3 := hts (.fieldLink RX5 123 "VowDoves$Book" "birds" "[I") (by decide +kernel)
  refine lv_iconst (v := 0) hx hb dX5_forgive_0 (by decide) ?_
  refine lv_istore_n (lv' := [(1, .int 0), (0, .ref vd)]) hx hb dX5_forgive_1 rfl hl (by decide) rfl (fun ls hl => ?_)
  refine lv_iconst (v := 0) hx hb dX5_forgive_2 (by decide) ?_
  refine lv_istore_n (lv' := [(2, .int 0), (1, .int 0), (0, .ref vd)]) hx hb dX5_forgive_3 rfl hl (by decide) rfl (fun ls hl => ?_)
  have hc4_1 : ∀ (n : Nat) (i : Nat), (i ≤ Hn) → (Hn + 1 ≤ i + n) → ∀ (w1 : Int32), w1 = (fgCN lt bd eg i).1 → ∀ (w2 : Int32), w2 = nI i → ∀ (wl : Nat → Int32), wl = (fgCN lt bd eg i).2.1 → ∀ (wb : Nat → Int32), wb = (fgCN lt bd eg i).2.2.1 → ∀ (we : Nat → Int32), we = (fgCN lt bd eg i).2.2.2 → ∀ (H : Heap) (locs : List Loc), va_P D vwCl [(vd, .inr (5, [.ref pg, .ref co, .ref bk, .ref kb, .ref mt, .ref rn, .int im, .int tr])), (co, .inr (2, [.ref akd, .ref afa, .ref ahd, .int (nI K), .int (nI Hn)])), (bk, .inr (0, [.ref alt, .ref abd, .ref aeg, .ref abr, .ref ask, .ref ash, .ref ast, .int (nI sn), .int yr])), (alt, .inl (cI, 5, .inl wl)), (abd, .inl (cI, 5, .inl wb)), (aeg, .inl (cI, 5, .inl we))] H → va_D A [(vd, .inr (5, [.ref pg, .ref co, .ref bk, .ref kb, .ref mt, .ref rn, .int im, .int tr])), (co, .inr (2, [.ref akd, .ref afa, .ref ahd, .int (nI K), .int (nI Hn)])), (bk, .inr (0, [.ref alt, .ref abd, .ref aeg, .ref abr, .ref ask, .ref ash, .ref ast, .int (nI sn), .int yr])), (alt, .inl (cI, 5, .inl wl)), (abd, .inl (cI, 5, .inl wb)), (aeg, .inl (cI, 5, .inl we))] → va_S A s.heap H locs → ∀ (ls : Array Slot), lv_has ls 3 [(2, .int w2), (1, .int w1), (0, .ref vd)] → W p l e (headSpec wsX5_forgive (zr 2)).room s m ([.ref vd] : List Value).toArray below meth c H locs 0 0 (MQ below (va_Qi (fun (r : Int32) (_ : Unit) => r = (fgCN lt bd eg Hn).1) (zB D [(vd, .inr (5, [.ref pg, .ref co, .ref bk, .ref kb, .ref mt, .ref rn, .int im, .int tr])), (co, .inr (2, [.ref akd, .ref afa, .ref ahd, .int (nI K), .int (nI Hn)])), (bk, .inr (0, [.ref alt, .ref abd, .ref aeg, .ref abr, .ref ask, .ref ash, .ref ast, .int (nI sn), .int yr])), (alt, .inl (cI, 5, .inl ((fgCN lt bd eg Hn).2.1))), (abd, .inl (cI, 5, .inl ((fgCN lt bd eg Hn).2.2.1))), (aeg, .inl (cI, 5, .inl ((fgCN lt bd eg Hn).2.2.2)))] A) A) ([.ref vd] : List Value).toArray s 0 0 A) (F0 m 4 ls []) := by
    intro n
    induction n with
    | zero => intro i hi hfu; exact absurd hfu (by omega)
    | succ n ihhc4_1 =>
      intro i hi hfu w1 ew1 w2 ew2 wl ewl wb ewb we ewe H locs hP hD hS ls hl
      subst ew1
      subst ew2
      subst ewl
      subst ewb
      subst ewe
      refine lv_iload_n hx hb dX5_forgive_4 rfl (lv_at hl 0 rfl) ?_
      refine lv_aload_n hx hb dX5_forgive_5 rfl (lv_at hl 2 rfl) ?_
      refine va_get (D := D) (ci := 5) (v := .ref co) (C := RX5) (T := TX5) (N := 8) hx hb hts hinX5 hown hE.1 hP 0 rfl rfl 1 (by decide) k_0 (fun _ h9 => h9) rfl dX5_forgive_6 ?_
      refine va_get (D := D) (ci := 2) (v := .int (nI Hn)) (C := RX2) (T := TX2) (N := 5) hx hb hts hinX2 hown hE.1 hP 1 rfl rfl 4 (by decide) k_1 (fun _ h9 => h9) rfl dX5_forgive_9 ?_
      refine lv_icmp_ge (tgt := 46) hx hb dX5_forgive_12 (by decide) (fun c_12 => ?_) (fun c_12 => ?_)
      · have n_12 := zn_le (a := Hn) (b := i) rfl rfl c_12 (by omega) (by omega)
        obtain rfl : Hn = i := by omega
        refine lv_iload_n hx hb dX5_forgive_46 rfl (lv_at hl 1 rfl) ?_
        have e9 : (fgCN lt bd eg Hn) = ((fgCN lt bd eg Hn).1, (fgCN lt bd eg Hn).2.1, (fgCN lt bd eg Hn).2.2.1, (fgCN lt bd eg Hn).2.2.2) := rfl
        have hP9 := hP.sub (ws' := [(vd, .inr (5, [.ref pg, .ref co, .ref bk, .ref kb, .ref mt, .ref rn, .int im, .int tr])), (co, .inr (2, [.ref akd, .ref afa, .ref ahd, .int (nI K), .int (nI Hn)])), (bk, .inr (0, [.ref alt, .ref abd, .ref aeg, .ref abr, .ref ask, .ref ash, .ref ast, .int (nI sn), .int yr])), (alt, .inl (cI, 5, .inl ((fgCN lt bd eg Hn).2.1))), (abd, .inl (cI, 5, .inl ((fgCN lt bd eg Hn).2.2.1))), (aeg, .inl (cI, 5, .inl ((fgCN lt bd eg Hn).2.2.2)))]) [0, 1, 2, 3, 4, 5] (by rw [e9]; try rfl)
        have hD9 := hD.sub (ws' := [(vd, .inr (5, [.ref pg, .ref co, .ref bk, .ref kb, .ref mt, .ref rn, .int im, .int tr])), (co, .inr (2, [.ref akd, .ref afa, .ref ahd, .int (nI K), .int (nI Hn)])), (bk, .inr (0, [.ref alt, .ref abd, .ref aeg, .ref abr, .ref ask, .ref ash, .ref ast, .int (nI sn), .int yr])), (alt, .inl (cI, 5, .inl ((fgCN lt bd eg Hn).2.1))), (abd, .inl (cI, 5, .inl ((fgCN lt bd eg Hn).2.2.1))), (aeg, .inl (cI, 5, .inl ((fgCN lt bd eg Hn).2.2.2)))]) [0, 1, 2, 3, 4, 5] (by decide) (by rw [e9]; try rfl)
        exact W.iret (v := (fgCN lt bd eg Hn).1) hx hb hr (fun t ht hW => ⟨⟨((fgCN lt bd eg Hn).1), (), rfl, (by rw [e9]; try rfl), by rw [ht]; exact hP9, hD9⟩, hS.F ht⟩) hS.2.2 dX5_forgive_47
      · have n_12 := zn_nle (a := Hn) (b := i) rfl rfl c_12 (by omega) (by omega)
        refine lv_aload_n hx hb dX5_forgive_15 rfl (lv_at hl 2 rfl) ?_
        refine va_get (D := D) (ci := 5) (v := .ref bk) (C := RX5) (T := TX5) (N := 8) hx hb hts hinX5 hown hE.1 hP 0 rfl rfl 2 (by decide) k_2 (fun _ h9 => h9) rfl dX5_forgive_16 ?_
        refine va_get (D := D) (ci := 0) (v := .ref abd) (C := RX0) (T := TX0) (N := 9) hx hb hts hinX0 hown hE.1 hP 2 rfl rfl 1 (by decide) k_3 (fun _ h9 => h9) rfl dX5_forgive_19 ?_
        refine lv_iload_n hx hb dX5_forgive_22 rfl (lv_at hl 0 rfl) ?_
        refine z_iald hx hb hE hP 4 rfl (j := i) rfl (by omega) (by decide) dX5_forgive_23 ?_
        refine lv_iconst (v := 2) hx hb dX5_forgive_24 (by decide) ?_
        refine lv_icmp_ne (tgt := 40) hx hb dX5_forgive_25 (by decide) (fun c_25 => ?_) (fun c_25 => ?_)
        · refine lv_iinc (v := nI (i + 1)) (lv' := [(2, .int (nI (i + 1))), (1, .int ((fgCN lt bd eg i).1)), (0, .ref vd)]) hx hb dX5_forgive_40 hl (k := 0) rfl (nI_add i 1) (by decide) rfl (fun ls hl => ?_)
          refine lv_goto (tgt := 4) hx hb dX5_forgive_43 (by decide) ?_
          exact ihhc4_1 (i + 1) (by omega) (by omega) ((fgCN lt bd eg i).1) (by rw [fgCN]; unfold fgCst; rw [if_neg c_25]) (nI (i + 1)) rfl ((fgCN lt bd eg i).2.1) (by rw [fgCN]; unfold fgCst; rw [if_neg c_25]) ((fgCN lt bd eg i).2.2.1) (by rw [fgCN]; unfold fgCst; rw [if_neg c_25]) ((fgCN lt bd eg i).2.2.2) (by rw [fgCN]; unfold fgCst; rw [if_neg c_25]) _ _ (hP.sub [0, 1, 2, 3, 4, 5] rfl) (hD.sub [0, 1, 2, 3, 4, 5] (by decide) rfl) hS ls (lv_sub hl [0, 1, 2] rfl)
        · refine lv_aload_n hx hb dX5_forgive_28 rfl (lv_at hl 2 rfl) ?_
          refine va_get (D := D) (ci := 5) (v := .ref bk) (C := RX5) (T := TX5) (N := 8) hx hb hts hinX5 hown hE.1 hP 0 rfl rfl 2 (by decide) k_2 (fun _ h9 => h9) rfl dX5_forgive_29 ?_
          refine lv_iload_n hx hb dX5_forgive_32 rfl (lv_at hl 0 rfl) ?_
          refine lv_iconst (v := 0) hx hb dX5_forgive_33 (by decide) ?_
          refine z_rwVv (As := [.int (nI i), .int 0]) (rest := []) (wr := [(vd, .inr (5, [.ref pg, .ref co, .ref bk, .ref kb, .ref mt, .ref rn, .int im, .int tr])), (co, .inr (2, [.ref akd, .ref afa, .ref ahd, .int (nI K), .int (nI Hn)]))]) (w1 := [(bk, .inr (0, [.ref alt, .ref abd, .ref aeg, .ref abr, .ref ask, .ref ash, .ref ast, .int (nI sn), .int yr])), (alt, .inl (cI, 5, .inl (upd ((fgCN lt bd eg i).2.1) i (-1)))), (abd, .inl (cI, 5, .inl (upd ((fgCN lt bd eg i).2.2.1) i 0))), (aeg, .inl (cI, 5, .inl (upd ((fgCN lt bd eg i).2.2.2) i 0)))]) ⟨hx, hb, hml, hown, hts⟩ (c_X0_empty l D cI cZ cA _ bk alt abd aeg abr ask ash ast sn yr ((fgCN lt bd eg i).2.1) ((fgCN lt bd eg i).2.2.1) ((fgCN lt bd eg i).2.2.2) i 0 (by first | assumption | omega)) (cwV 2 hts gX5_forgive_X0_empty rfl rfl rfl (by decide +kernel) ⟨Nat.le_of_ble_eq_true rfl, Nat.le_of_ble_eq_true rfl⟩) hE hP hD hS hA [2, 3, 4, 5] [0, 1] rfl rfl rfl (by decide) (by decide) (by decide) 0 0 rfl rfl rfl hl.1 rfl (Nat.le_of_ble_eq_true rfl) dX5_forgive_34 ⟨Nat.zero_le _, Nat.zero_le _⟩ (fun H locs hP hD hS => ?_)
          have hP : va_P D vwCl [(vd, .inr (5, [.ref pg, .ref co, .ref bk, .ref kb, .ref mt, .ref rn, .int im, .int tr])), (co, .inr (2, [.ref akd, .ref afa, .ref ahd, .int (nI K), .int (nI Hn)])), (bk, .inr (0, [.ref alt, .ref abd, .ref aeg, .ref abr, .ref ask, .ref ash, .ref ast, .int (nI sn), .int yr])), (alt, .inl (cI, 5, .inl (upd ((fgCN lt bd eg i).2.1) i (-1)))), (abd, .inl (cI, 5, .inl (upd ((fgCN lt bd eg i).2.2.1) i 0))), (aeg, .inl (cI, 5, .inl (upd ((fgCN lt bd eg i).2.2.2) i 0)))] H := hP
          have hD : va_D A [(vd, .inr (5, [.ref pg, .ref co, .ref bk, .ref kb, .ref mt, .ref rn, .int im, .int tr])), (co, .inr (2, [.ref akd, .ref afa, .ref ahd, .int (nI K), .int (nI Hn)])), (bk, .inr (0, [.ref alt, .ref abd, .ref aeg, .ref abr, .ref ask, .ref ash, .ref ast, .int (nI sn), .int yr])), (alt, .inl (cI, 5, .inl (upd ((fgCN lt bd eg i).2.1) i (-1)))), (abd, .inl (cI, 5, .inl (upd ((fgCN lt bd eg i).2.2.1) i 0))), (aeg, .inl (cI, 5, .inl (upd ((fgCN lt bd eg i).2.2.2) i 0)))] := hD
          refine lv_iinc (v := ((fgCN lt bd eg i).1) + 1) (lv' := [(1, .int (((fgCN lt bd eg i).1) + 1)), (2, .int (nI i)), (0, .ref vd)]) hx hb dX5_forgive_37 hl (k := 1) rfl rfl (by decide) rfl (fun ls hl => ?_)
          refine lv_iinc (v := nI (i + 1)) (lv' := [(2, .int (nI (i + 1))), (1, .int (((fgCN lt bd eg i).1) + 1)), (0, .ref vd)]) hx hb dX5_forgive_40 hl (k := 1) rfl (nI_add i 1) (by decide) rfl (fun ls hl => ?_)
          refine lv_goto (tgt := 4) hx hb dX5_forgive_43 (by decide) ?_
          exact ihhc4_1 (i + 1) (by omega) (by omega) (((fgCN lt bd eg i).1) + 1) (by rw [fgCN]; unfold fgCst; rw [if_pos c_25]) (nI (i + 1)) rfl (upd ((fgCN lt bd eg i).2.1) i (-1)) (by rw [fgCN]; unfold fgCst; rw [if_pos c_25]) (upd ((fgCN lt bd eg i).2.2.1) i 0) (by rw [fgCN]; unfold fgCst; rw [if_pos c_25]) (upd ((fgCN lt bd eg i).2.2.2) i 0) (by rw [fgCN]; unfold fgCst; rw [if_pos c_25]) _ _ (hP.sub [0, 1, 2, 3, 4, 5] rfl) (hD.sub [0, 1, 2, 3, 4, 5] (by decide) rfl) hS ls (lv_sub hl [0, 1, 2] rfl)
  exact hc4_1 (Hn + 1) 0 (by omega) (by omega) 0 rfl 0 rfl lt rfl bd rfl eg rfl _ _ (hP.sub [0, 1, 2, 3, 4, 5] rfl) (hD.sub [0, 1, 2, 3, 4, 5] (by decide) rfl) hS ls (lv_sub hl [0, 1, 2] rfl)

set_option maxHeartbeats 1000000 in
set_option maxRecDepth 100000 in
theorem c_X5_odds (l : Launch) (D : va_G) (cI cZ cA : ClassId) (vd : Nat) (pg : Nat) (co : Nat) (bk : Nat) (kb : Nat) (mt : Nat) (rn : Nat) (im : Int32) (tr : Int32) (akd : Nat) (afa : Nat) (ahd : Nat) (K : Nat) (Hn : Nat) (alt : Nat) (abd : Nat) (aeg : Nat) (abr : Nat) (ask : Nat) (ash : Nat) (ast : Nat) (sn : Nat) (yr : Int32) (kd : Nat → Int32) (fa : Nat → Int32) (hd : Nat → Int32) (lt : Nat → Int32) (bd : Nat → Int32) (years : Int32) (what : Int32) (hK : K ≤ 5) (hH : Hn ≤ 5) : Met l yX5_odds wsX5_odds (zr 4) (va_Pc [.ref vd, .int years, .int what] (zPr D cI cZ cA [(vd, .inr (5, [.ref pg, .ref co, .ref bk, .ref kb, .ref mt, .ref rn, .int im, .int tr])), (co, .inr (2, [.ref akd, .ref afa, .ref ahd, .int (nI K), .int (nI Hn)])), (akd, .inl (cI, 5, .inl kd)), (afa, .inl (cI, 5, .inl fa)), (ahd, .inl (cI, 5, .inl hd)), (bk, .inr (0, [.ref alt, .ref abd, .ref aeg, .ref abr, .ref ask, .ref ash, .ref ast, .int (nI sn), .int yr])), (alt, .inl (cI, 5, .inl lt)), (abd, .inl (cI, 5, .inl bd))])) (vp_Sl (fun r => r = fOddsC kd fa hd lt bd K Hn years what)) 0 0 (fun _ => False) := by
  refine Met.ofW (cc := cX5_odds) (maxL := 13) (ret := (some .long)) (by decide) rfl ?_
  intro p e s m args below meth c s₁ B hml hv
  obtain ⟨rfl, hP, hE⟩ := hv
  have hx := B.exec
  have hb := B.bytes
  have hr := B.returns
  have hts := atoms_spec (ws := wsX5_odds) B.pre
  have hown : s.vm.findClass RX5 = some m.cls := findClass_of_methodNamed B.named
  have hlocks := B.notSynchronized
  have hP : va_P D vwCl [(vd, .inr (5, [.ref pg, .ref co, .ref bk, .ref kb, .ref mt, .ref rn, .int im, .int tr])), (co, .inr (2, [.ref akd, .ref afa, .ref ahd, .int (nI K), .int (nI Hn)])), (akd, .inl (cI, 5, .inl kd)), (afa, .inl (cI, 5, .inl fa)), (ahd, .inl (cI, 5, .inl hd)), (bk, .inr (0, [.ref alt, .ref abd, .ref aeg, .ref abr, .ref ask, .ref ash, .ref ast, .int (nI sn), .int yr])), (alt, .inl (cI, 5, .inl lt)), (abd, .inl (cI, 5, .inl bd))] s.heap := hP
  have hl := lv_entry ([.ref vd, .int years, .int what]) (n := 13) (Nat.le_of_ble_eq_true rfl)
  rw [lg_entry_eq]
  generalize (lg_sl ([.ref vd, .int years, .int what]) ++ List.replicate (13 - (lg_sl ([.ref vd, .int years, .int what])).length) Slot.unset).toArray = ls at hl ⊢
  have hl : lv_has ls 13 [(0, .ref vd), (1, .int years), (2, .int what)] := hl
  have hinX0 : ∀ w ∈ wsX00, w ∈ wsX5_odds := fun w h => List.mem_cons_of_mem _ (List.mem_append_right _ h)
  have hinX2 : ∀ w ∈ wsX20, w ∈ wsX5_odds := fun w h => List.mem_cons_of_mem _ (List.mem_append_left _ (List.mem_append_right _ h))
  have hinX5 : ∀ w ∈ wsX50, w ∈ wsX5_odds := fun w h => List.mem_cons_of_mem _ (List.mem_append_left _ (List.mem_append_left _ (List.mem_append_right _ h)))
  have k_0 := hts (.constantLong RX5 150 (-102)) (by decide +kernel)
  have k_1 := hts (.fieldLink RX5 19 "VowDoves" "cote" "LVowDoves$Cote;") (by decide +kernel)
  have k_2 := hts (.fieldLink RX5 77 "VowDoves$Cote" "holes" "I") (by decide +kernel)
  have k_3 := hts (.fieldLink RX5 26 "VowDoves" "book" "LVowDoves$Book;") (by decide +kernel)
  have k_4 := hts (.fieldLink RX5 123 "VowDoves$Book" "birds" "[I") (by decide +kernel)
  have k_5 := hts (.fieldLink RX5 120 "VowDoves$Book" "letTo" "[I") (by decide +kernel)
  have k_6 := hts (.fieldLink RX5 117 "VowDoves$Cote" "hards" "[I") (by decide +kernel)
  have k_7 := hts (.constantLong RX5 154 (10)) (by decide +kernel)
  have k_8 := hts (.constantLong RX5 152 (-103)) (by decide +kernel)
  refine lv_iload_n hx hb dX5_odds_0 rfl (lv_at hl 1 rfl) ?_
  refine lv_iconst (v := 1) hx hb dX5_odds_1 (by decide) ?_
  refine lv_icmp_lt (tgt := 19) hx hb dX5_odds_2 (by decide) (fun c_2 => ?_) (fun c_2 => ?_)
  · have c_2 := Int32.not_le.mpr c_2
    refine lv_ldc2 (v := (-102)) hx hb hown k_0 dX5_odds_19 ?_
    exact W.lret (v := (-102)) hx hb hr (fun t ht hW => ⟨(-102), rfl, (by unfold fOddsC; grind), ht⟩) (fun q h => by cases h) dX5_odds_22
  · have c_2 := Int32.not_lt.mp c_2
    refine lv_iload_n hx hb dX5_odds_5 rfl (lv_at hl 1 rfl) ?_
    refine lv_iconst (v := 2) hx hb dX5_odds_6 (by decide) ?_
    refine lv_icmp_gt (tgt := 19) hx hb dX5_odds_7 (by decide) (fun c_7 => ?_) (fun c_7 => ?_)
    · have c_7 := Int32.not_le.mpr c_7
      refine lv_ldc2 (v := (-102)) hx hb hown k_0 dX5_odds_19 ?_
      exact W.lret (v := (-102)) hx hb hr (fun t ht hW => ⟨(-102), rfl, (by unfold fOddsC; grind), ht⟩) (fun q h => by cases h) dX5_odds_22
    · have c_7 := Int32.not_lt.mp c_7
      refine lv_iload_n hx hb dX5_odds_10 rfl (lv_at hl 2 rfl) ?_
      refine lv_if_lt (tgt := 19) hx hb dX5_odds_11 (by decide) (fun c_11 => ?_) (fun c_11 => ?_)
      · have c_11 := Int32.not_le.mpr c_11
        refine lv_ldc2 (v := (-102)) hx hb hown k_0 dX5_odds_19 ?_
        exact W.lret (v := (-102)) hx hb hr (fun t ht hW => ⟨(-102), rfl, (by unfold fOddsC; grind), ht⟩) (fun q h => by cases h) dX5_odds_22
      · have c_11 := Int32.not_lt.mp c_11
        refine lv_iload_n hx hb dX5_odds_14 rfl (lv_at hl 2 rfl) ?_
        refine lv_iconst (v := 1) hx hb dX5_odds_15 (by decide) ?_
        refine lv_icmp_le (tgt := 23) hx hb dX5_odds_16 (by decide) (fun c_16 => ?_) (fun c_16 => ?_)
        · refine lv_aload_n hx hb dX5_odds_23 rfl (lv_at hl 0 rfl) ?_
          refine va_get (D := D) (ci := 5) (v := .ref co) (C := RX5) (T := TX5) (N := 8) hx hb hts hinX5 hown hE.1 hP 0 rfl rfl 1 (by decide) k_1 (fun _ h9 => h9) rfl dX5_odds_24 ?_
          refine z_roVi (As := []) (rest := []) ⟨hx, hb, hml, hown, hts⟩ (c_X2_stands l D cI cZ cA co akd afa ahd K Hn (by first | assumption | omega)) (cwV 0 hts gX5_odds_X2_stands rfl rfl rfl (by decide +kernel) ⟨Nat.le_of_ble_eq_true rfl, Nat.le_of_ble_eq_true rfl⟩) hE hP [1] rfl 0 2 rfl rfl rfl hl.1 rfl (Nat.le_of_ble_eq_true rfl) dX5_odds_27 ⟨Nat.zero_le _, Nat.zero_le _⟩ ?_
          refine lv_if_ne (tgt := 37) hx hb dX5_odds_30 (by decide) (fun c_30 => ?_) (fun c_30 => ?_)
          · have c_30 := zb_1 c_30
            refine lv_lconst (v := 1) hx hb dX5_odds_37 (by decide) ?_
            refine lv_lstore_n (lv' := [(3, .long 1), (0, .ref vd), (1, .int years), (2, .int what)]) hx hb dX5_odds_38 rfl hl (by decide) rfl (fun ls hl => ?_)
            refine lv_lconst (v := 1) hx hb dX5_odds_39 (by decide) ?_
            refine lv_lstore (lv' := [(5, .long 1), (3, .long 1), (0, .ref vd), (1, .int years), (2, .int what)]) hx hb dX5_odds_40 hl (by decide) rfl (fun ls hl => ?_)
            refine lv_iconst (v := 0) hx hb dX5_odds_42 (by decide) ?_
            refine lv_istore (lv' := [(7, .int 0), (5, .long 1), (3, .long 1), (0, .ref vd), (1, .int years), (2, .int what)]) hx hb dX5_odds_43 hl (by decide) rfl (fun ls hl => ?_)
            have hc45_1 : ∀ (n : Nat) (h : Nat), (h ≤ Hn) → (Hn + 1 ≤ h + n) → ∀ (w3 : Int64), w3 = abN K kd fa hd lt bd h → ∀ (w5 : Int64), w5 = blN bd h → ∀ (w7 : Int32), w7 = nI h → ∀ (ls : Array Slot), lv_has ls 13 [(7, .int w7), (5, .long w5), (3, .long w3), (0, .ref vd), (1, .int years), (2, .int what)] → W p l e (headSpec wsX5_odds (zr 4)).room s m ([.ref vd, .int years, .int what] : List Value).toArray below meth c s.heap [] 0 0 (MQ below (vp_Sl (fun r => r = fOddsC kd fa hd lt bd K Hn years what)) ([.ref vd, .int years, .int what] : List Value).toArray s 0 0 (fun _ => False)) (F0 m 45 ls []) := by
              intro n
              induction n with
              | zero => intro h hh hfu; exact absurd hfu (by omega)
              | succ n ihhc45_1 =>
                intro h hh hfu w3 ew3 w5 ew5 w7 ew7 ls hl
                subst ew3
                subst ew5
                subst ew7
                refine lv_iload hx hb dX5_odds_45 (lv_at hl 0 rfl) ?_
                refine lv_aload_n hx hb dX5_odds_47 rfl (lv_at hl 3 rfl) ?_
                refine va_get (D := D) (ci := 5) (v := .ref co) (C := RX5) (T := TX5) (N := 8) hx hb hts hinX5 hown hE.1 hP 0 rfl rfl 1 (by decide) k_1 (fun _ h9 => h9) rfl dX5_odds_48 ?_
                refine va_get (D := D) (ci := 2) (v := .int (nI Hn)) (C := RX2) (T := TX2) (N := 5) hx hb hts hinX2 hown hE.1 hP 1 rfl rfl 4 (by decide) k_2 (fun _ h9 => h9) rfl dX5_odds_51 ?_
                refine lv_icmp_ge (tgt := 116) hx hb dX5_odds_54 (by decide) (fun c_54 => ?_) (fun c_54 => ?_)
                · have n_54 := zn_le (a := Hn) (b := h) rfl rfl c_54 (by omega) (by omega)
                  obtain rfl : Hn = h := by omega
                  refine lv_iload_n hx hb dX5_odds_116 rfl (lv_at hl 5 rfl) ?_
                  refine lv_if_ne (tgt := 124) hx hb dX5_odds_117 (by decide) (fun c_117 => ?_) (fun c_117 => ?_)
                  · refine lv_lload hx hb dX5_odds_124 (lv_at hl 1 rfl) ?_
                    refine lv_lstore (lv' := [(7, .long (blN bd Hn)), (5, .long (blN bd Hn)), (3, .long (abN K kd fa hd lt bd Hn)), (0, .ref vd), (1, .int years), (2, .int what)]) hx hb dX5_odds_126 hl (by decide) rfl (fun ls hl => ?_)
                    refine lv_lload_n hx hb dX5_odds_128 rfl (lv_at hl 2 rfl) ?_
                    refine lv_lload hx hb dX5_odds_129 (lv_at hl 1 rfl) ?_
                    refine z_roSl (As := [.long (abN K kd fa hd lt bd Hn), .long (blN bd Hn)]) (rest := []) ⟨hx, hb, hml, hown, hts⟩ (c_X5_greatestDivisor l D cI cZ cA (abN K kd fa hd lt bd Hn) (blN bd Hn) ) (va_cwS 2 hts gX5_odds_X5_greatestDivisor rfl rfl rfl (by decide +kernel) ⟨Nat.le_of_ble_eq_true rfl, Nat.le_of_ble_eq_true rfl⟩) hE hP [] rfl rfl hl.1 rfl (Nat.le_of_ble_eq_true rfl) dX5_odds_131 ⟨Nat.zero_le _, Nat.zero_le _⟩ ?_
                    refine lv_lstore (lv' := [(9, .long (gdN 100 (abN K kd fa hd lt bd Hn) (blN bd Hn))), (7, .long (blN bd Hn)), (5, .long (blN bd Hn)), (3, .long (abN K kd fa hd lt bd Hn)), (0, .ref vd), (1, .int years), (2, .int what)]) hx hb dX5_odds_134 hl (by decide) rfl (fun ls hl => ?_)
                    refine lv_lload hx hb dX5_odds_136 (lv_at hl 0 rfl) ?_
                    refine lv_lconst (v := 0) hx hb dX5_odds_138 (by decide) ?_
                    refine W.lcmp hx hb dX5_odds_139 ?_
                    refine lv_if_le (tgt := 151) hx hb dX5_odds_140 (by decide) (fun c_140 => ?_) (fun c_140 => ?_)
                    · have c_140 := zl_le c_140
                      refine lv_lload hx hb dX5_odds_151 (lv_at hl 1 rfl) ?_
                      refine lv_lstore (lv' := [(11, .long (blN bd Hn)), (9, .long (gdN 100 (abN K kd fa hd lt bd Hn) (blN bd Hn))), (7, .long (blN bd Hn)), (5, .long (blN bd Hn)), (3, .long (abN K kd fa hd lt bd Hn)), (0, .ref vd), (1, .int years), (2, .int what)]) hx hb dX5_odds_153 hl (by decide) rfl (fun ls hl => ?_)
                      refine lv_iload_n hx hb dX5_odds_155 rfl (lv_at hl 6 rfl) ?_
                      refine lv_iconst (v := 1) hx hb dX5_odds_156 (by decide) ?_
                      refine lv_icmp_ne (tgt := 165) hx hb dX5_odds_157 (by decide) (fun c_157 => ?_) (fun c_157 => ?_)
                      · refine lv_lload hx hb dX5_odds_165 (lv_at hl 0 rfl) ?_
                        refine lv_lload hx hb dX5_odds_167 (lv_at hl 0 rfl) ?_
                        refine lv_lmul hx hb dX5_odds_169 ?_
                        exact W.lret (v := (blN bd Hn) * (blN bd Hn)) hx hb hr (fun t ht hW => ⟨((blN bd Hn) * (blN bd Hn)), rfl, (by rw [fOddsC, if_pos ⟨⟨c_2, c_7⟩, c_11, c_16⟩, if_pos c_30, oddC, if_neg c_117, lowC, if_pos c_140, sqC, if_neg c_157]), ht⟩) (fun q h => by cases h) dX5_odds_170
                      · refine lv_lload hx hb dX5_odds_160 (lv_at hl 0 rfl) ?_
                        refine lv_goto (tgt := 170) hx hb dX5_odds_162 (by decide) ?_
                        exact W.lret (v := blN bd Hn) hx hb hr (fun t ht hW => ⟨(blN bd Hn), rfl, (by rw [fOddsC, if_pos ⟨⟨c_2, c_7⟩, c_11, c_16⟩, if_pos c_30, oddC, if_neg c_117, lowC, if_pos c_140, sqC, if_pos c_157]), ht⟩) (fun q h => by cases h) dX5_odds_170
                    · have c_140l := zl_nle c_140
                      have c_140 := Int64.not_le.mpr c_140l
                      refine lv_lload hx hb dX5_odds_143 (lv_at hl 1 rfl) ?_
                      refine lv_lload hx hb dX5_odds_145 (lv_at hl 0 rfl) ?_
                      refine lv_ldiv hx hb dX5_odds_147 (fun q => by rw [q] at c_140l; exact absurd c_140l (by decide)) ?_
                      refine lv_goto (tgt := 153) hx hb dX5_odds_148 (by decide) ?_
                      refine lv_lstore (lv' := [(11, .long ((blN bd Hn) / (gdN 100 (abN K kd fa hd lt bd Hn) (blN bd Hn)))), (9, .long (gdN 100 (abN K kd fa hd lt bd Hn) (blN bd Hn))), (7, .long (blN bd Hn)), (5, .long (blN bd Hn)), (3, .long (abN K kd fa hd lt bd Hn)), (0, .ref vd), (1, .int years), (2, .int what)]) hx hb dX5_odds_153 hl (by decide) rfl (fun ls hl => ?_)
                      refine lv_iload_n hx hb dX5_odds_155 rfl (lv_at hl 6 rfl) ?_
                      refine lv_iconst (v := 1) hx hb dX5_odds_156 (by decide) ?_
                      refine lv_icmp_ne (tgt := 165) hx hb dX5_odds_157 (by decide) (fun c_157 => ?_) (fun c_157 => ?_)
                      · refine lv_lload hx hb dX5_odds_165 (lv_at hl 0 rfl) ?_
                        refine lv_lload hx hb dX5_odds_167 (lv_at hl 0 rfl) ?_
                        refine lv_lmul hx hb dX5_odds_169 ?_
                        exact W.lret (v := ((blN bd Hn) / (gdN 100 (abN K kd fa hd lt bd Hn) (blN bd Hn))) * ((blN bd Hn) / (gdN 100 (abN K kd fa hd lt bd Hn) (blN bd Hn)))) hx hb hr (fun t ht hW => ⟨(((blN bd Hn) / (gdN 100 (abN K kd fa hd lt bd Hn) (blN bd Hn))) * ((blN bd Hn) / (gdN 100 (abN K kd fa hd lt bd Hn) (blN bd Hn)))), rfl, (by rw [fOddsC, if_pos ⟨⟨c_2, c_7⟩, c_11, c_16⟩, if_pos c_30, oddC, if_neg c_117, lowC, if_neg c_140, sqC, if_neg c_157]), ht⟩) (fun q h => by cases h) dX5_odds_170
                      · refine lv_lload hx hb dX5_odds_160 (lv_at hl 0 rfl) ?_
                        refine lv_goto (tgt := 170) hx hb dX5_odds_162 (by decide) ?_
                        exact W.lret (v := (blN bd Hn) / (gdN 100 (abN K kd fa hd lt bd Hn) (blN bd Hn))) hx hb hr (fun t ht hW => ⟨((blN bd Hn) / (gdN 100 (abN K kd fa hd lt bd Hn) (blN bd Hn))), rfl, (by rw [fOddsC, if_pos ⟨⟨c_2, c_7⟩, c_11, c_16⟩, if_pos c_30, oddC, if_neg c_117, lowC, if_neg c_140, sqC, if_pos c_157]), ht⟩) (fun q h => by cases h) dX5_odds_170
                  · refine lv_lload_n hx hb dX5_odds_120 rfl (lv_at hl 2 rfl) ?_
                    refine lv_goto (tgt := 126) hx hb dX5_odds_121 (by decide) ?_
                    refine lv_lstore (lv' := [(7, .long (abN K kd fa hd lt bd Hn)), (5, .long (blN bd Hn)), (3, .long (abN K kd fa hd lt bd Hn)), (0, .ref vd), (1, .int years), (2, .int what)]) hx hb dX5_odds_126 hl (by decide) rfl (fun ls hl => ?_)
                    refine lv_lload_n hx hb dX5_odds_128 rfl (lv_at hl 2 rfl) ?_
                    refine lv_lload hx hb dX5_odds_129 (lv_at hl 1 rfl) ?_
                    refine z_roSl (As := [.long (abN K kd fa hd lt bd Hn), .long (blN bd Hn)]) (rest := []) ⟨hx, hb, hml, hown, hts⟩ (c_X5_greatestDivisor l D cI cZ cA (abN K kd fa hd lt bd Hn) (blN bd Hn) ) (va_cwS 2 hts gX5_odds_X5_greatestDivisor rfl rfl rfl (by decide +kernel) ⟨Nat.le_of_ble_eq_true rfl, Nat.le_of_ble_eq_true rfl⟩) hE hP [] rfl rfl hl.1 rfl (Nat.le_of_ble_eq_true rfl) dX5_odds_131 ⟨Nat.zero_le _, Nat.zero_le _⟩ ?_
                    refine lv_lstore (lv' := [(9, .long (gdN 100 (abN K kd fa hd lt bd Hn) (blN bd Hn))), (7, .long (abN K kd fa hd lt bd Hn)), (5, .long (blN bd Hn)), (3, .long (abN K kd fa hd lt bd Hn)), (0, .ref vd), (1, .int years), (2, .int what)]) hx hb dX5_odds_134 hl (by decide) rfl (fun ls hl => ?_)
                    refine lv_lload hx hb dX5_odds_136 (lv_at hl 0 rfl) ?_
                    refine lv_lconst (v := 0) hx hb dX5_odds_138 (by decide) ?_
                    refine W.lcmp hx hb dX5_odds_139 ?_
                    refine lv_if_le (tgt := 151) hx hb dX5_odds_140 (by decide) (fun c_140 => ?_) (fun c_140 => ?_)
                    · have c_140 := zl_le c_140
                      refine lv_lload hx hb dX5_odds_151 (lv_at hl 1 rfl) ?_
                      refine lv_lstore (lv' := [(11, .long (abN K kd fa hd lt bd Hn)), (9, .long (gdN 100 (abN K kd fa hd lt bd Hn) (blN bd Hn))), (7, .long (abN K kd fa hd lt bd Hn)), (5, .long (blN bd Hn)), (3, .long (abN K kd fa hd lt bd Hn)), (0, .ref vd), (1, .int years), (2, .int what)]) hx hb dX5_odds_153 hl (by decide) rfl (fun ls hl => ?_)
                      refine lv_iload_n hx hb dX5_odds_155 rfl (lv_at hl 6 rfl) ?_
                      refine lv_iconst (v := 1) hx hb dX5_odds_156 (by decide) ?_
                      refine lv_icmp_ne (tgt := 165) hx hb dX5_odds_157 (by decide) (fun c_157 => ?_) (fun c_157 => ?_)
                      · refine lv_lload hx hb dX5_odds_165 (lv_at hl 0 rfl) ?_
                        refine lv_lload hx hb dX5_odds_167 (lv_at hl 0 rfl) ?_
                        refine lv_lmul hx hb dX5_odds_169 ?_
                        exact W.lret (v := (abN K kd fa hd lt bd Hn) * (abN K kd fa hd lt bd Hn)) hx hb hr (fun t ht hW => ⟨((abN K kd fa hd lt bd Hn) * (abN K kd fa hd lt bd Hn)), rfl, (by rw [fOddsC, if_pos ⟨⟨c_2, c_7⟩, c_11, c_16⟩, if_pos c_30, oddC, if_pos c_117, lowC, if_pos c_140, sqC, if_neg c_157]), ht⟩) (fun q h => by cases h) dX5_odds_170
                      · refine lv_lload hx hb dX5_odds_160 (lv_at hl 0 rfl) ?_
                        refine lv_goto (tgt := 170) hx hb dX5_odds_162 (by decide) ?_
                        exact W.lret (v := abN K kd fa hd lt bd Hn) hx hb hr (fun t ht hW => ⟨(abN K kd fa hd lt bd Hn), rfl, (by rw [fOddsC, if_pos ⟨⟨c_2, c_7⟩, c_11, c_16⟩, if_pos c_30, oddC, if_pos c_117, lowC, if_pos c_140, sqC, if_pos c_157]), ht⟩) (fun q h => by cases h) dX5_odds_170
                    · have c_140l := zl_nle c_140
                      have c_140 := Int64.not_le.mpr c_140l
                      refine lv_lload hx hb dX5_odds_143 (lv_at hl 1 rfl) ?_
                      refine lv_lload hx hb dX5_odds_145 (lv_at hl 0 rfl) ?_
                      refine lv_ldiv hx hb dX5_odds_147 (fun q => by rw [q] at c_140l; exact absurd c_140l (by decide)) ?_
                      refine lv_goto (tgt := 153) hx hb dX5_odds_148 (by decide) ?_
                      refine lv_lstore (lv' := [(11, .long ((abN K kd fa hd lt bd Hn) / (gdN 100 (abN K kd fa hd lt bd Hn) (blN bd Hn)))), (9, .long (gdN 100 (abN K kd fa hd lt bd Hn) (blN bd Hn))), (7, .long (abN K kd fa hd lt bd Hn)), (5, .long (blN bd Hn)), (3, .long (abN K kd fa hd lt bd Hn)), (0, .ref vd), (1, .int years), (2, .int what)]) hx hb dX5_odds_153 hl (by decide) rfl (fun ls hl => ?_)
                      refine lv_iload_n hx hb dX5_odds_155 rfl (lv_at hl 6 rfl) ?_
                      refine lv_iconst (v := 1) hx hb dX5_odds_156 (by decide) ?_
                      refine lv_icmp_ne (tgt := 165) hx hb dX5_odds_157 (by decide) (fun c_157 => ?_) (fun c_157 => ?_)
                      · refine lv_lload hx hb dX5_odds_165 (lv_at hl 0 rfl) ?_
                        refine lv_lload hx hb dX5_odds_167 (lv_at hl 0 rfl) ?_
                        refine lv_lmul hx hb dX5_odds_169 ?_
                        exact W.lret (v := ((abN K kd fa hd lt bd Hn) / (gdN 100 (abN K kd fa hd lt bd Hn) (blN bd Hn))) * ((abN K kd fa hd lt bd Hn) / (gdN 100 (abN K kd fa hd lt bd Hn) (blN bd Hn)))) hx hb hr (fun t ht hW => ⟨(((abN K kd fa hd lt bd Hn) / (gdN 100 (abN K kd fa hd lt bd Hn) (blN bd Hn))) * ((abN K kd fa hd lt bd Hn) / (gdN 100 (abN K kd fa hd lt bd Hn) (blN bd Hn)))), rfl, (by rw [fOddsC, if_pos ⟨⟨c_2, c_7⟩, c_11, c_16⟩, if_pos c_30, oddC, if_pos c_117, lowC, if_neg c_140, sqC, if_neg c_157]), ht⟩) (fun q h => by cases h) dX5_odds_170
                      · refine lv_lload hx hb dX5_odds_160 (lv_at hl 0 rfl) ?_
                        refine lv_goto (tgt := 170) hx hb dX5_odds_162 (by decide) ?_
                        exact W.lret (v := (abN K kd fa hd lt bd Hn) / (gdN 100 (abN K kd fa hd lt bd Hn) (blN bd Hn))) hx hb hr (fun t ht hW => ⟨((abN K kd fa hd lt bd Hn) / (gdN 100 (abN K kd fa hd lt bd Hn) (blN bd Hn))), rfl, (by rw [fOddsC, if_pos ⟨⟨c_2, c_7⟩, c_11, c_16⟩, if_pos c_30, oddC, if_pos c_117, lowC, if_neg c_140, sqC, if_pos c_157]), ht⟩) (fun q h => by cases h) dX5_odds_170
                · have n_54 := zn_nle (a := Hn) (b := h) rfl rfl c_54 (by omega) (by omega)
                  refine lv_aload_n hx hb dX5_odds_57 rfl (lv_at hl 3 rfl) ?_
                  refine va_get (D := D) (ci := 5) (v := .ref bk) (C := RX5) (T := TX5) (N := 8) hx hb hts hinX5 hown hE.1 hP 0 rfl rfl 2 (by decide) k_3 (fun _ h9 => h9) rfl dX5_odds_58 ?_
                  refine va_get (D := D) (ci := 0) (v := .ref abd) (C := RX0) (T := TX0) (N := 9) hx hb hts hinX0 hown hE.1 hP 5 rfl rfl 1 (by decide) k_4 (fun _ h9 => h9) rfl dX5_odds_61 ?_
                  refine lv_iload hx hb dX5_odds_64 (lv_at hl 0 rfl) ?_
                  refine z_iald hx hb hE hP 7 rfl (j := h) rfl (by omega) (by decide) dX5_odds_66 ?_
                  refine lv_iconst (v := 1) hx hb dX5_odds_67 (by decide) ?_
                  refine lv_icmp_ne (tgt := 110) hx hb dX5_odds_68 (by decide) (fun c_68 => ?_) (fun c_68 => ?_)
                  · refine lv_iinc (v := nI (h + 1)) (lv' := [(7, .int (nI (h + 1))), (5, .long (blN bd h)), (3, .long (abN K kd fa hd lt bd h)), (0, .ref vd), (1, .int years), (2, .int what)]) hx hb dX5_odds_110 hl (k := 0) rfl (nI_add h 1) (by decide) rfl (fun ls hl => ?_)
                    refine lv_goto (tgt := 45) hx hb dX5_odds_113 (by decide) ?_
                    exact ihhc45_1 (h + 1) (by omega) (by omega) (abN K kd fa hd lt bd h) (by rw [abN, if_neg c_68]) (blN bd h) (by rw [blN, if_neg c_68]) (nI (h + 1)) rfl ls (lv_sub hl [0, 1, 2, 3, 4, 5] rfl)
                  · refine lv_lload_n hx hb dX5_odds_71 rfl (lv_at hl 2 rfl) ?_
                    refine lv_aload_n hx hb dX5_odds_72 rfl (lv_at hl 3 rfl) ?_
                    refine va_get (D := D) (ci := 5) (v := .ref co) (C := RX5) (T := TX5) (N := 8) hx hb hts hinX5 hown hE.1 hP 0 rfl rfl 1 (by decide) k_1 (fun _ h9 => h9) rfl dX5_odds_73 ?_
                    refine lv_aload_n hx hb dX5_odds_76 rfl (lv_at hl 3 rfl) ?_
                    refine va_get (D := D) (ci := 5) (v := .ref bk) (C := RX5) (T := TX5) (N := 8) hx hb hts hinX5 hown hE.1 hP 0 rfl rfl 2 (by decide) k_3 (fun _ h9 => h9) rfl dX5_odds_77 ?_
                    refine va_get (D := D) (ci := 0) (v := .ref alt) (C := RX0) (T := TX0) (N := 9) hx hb hts hinX0 hown hE.1 hP 5 rfl rfl 0 (by decide) k_5 (fun _ h9 => h9) rfl dX5_odds_80 ?_
                    refine lv_iload hx hb dX5_odds_83 (lv_at hl 0 rfl) ?_
                    refine z_iald hx hb hE hP 6 rfl (j := h) rfl (by omega) (by decide) dX5_odds_85 ?_
                    refine lv_aload_n hx hb dX5_odds_86 rfl (lv_at hl 3 rfl) ?_
                    refine va_get (D := D) (ci := 5) (v := .ref co) (C := RX5) (T := TX5) (N := 8) hx hb hts hinX5 hown hE.1 hP 0 rfl rfl 1 (by decide) k_1 (fun _ h9 => h9) rfl dX5_odds_87 ?_
                    refine va_get (D := D) (ci := 2) (v := .ref ahd) (C := RX2) (T := TX2) (N := 5) hx hb hts hinX2 hown hE.1 hP 1 rfl rfl 2 (by decide) k_6 (fun _ h9 => h9) rfl dX5_odds_90 ?_
                    refine lv_iload hx hb dX5_odds_93 (lv_at hl 0 rfl) ?_
                    refine z_iald hx hb hE hP 4 rfl (j := h) rfl (by omega) (by decide) dX5_odds_95 ?_
                    refine z_roVi (As := [.int (lt h), .int (hd h)]) (rest := [.long (abN K kd fa hd lt bd h)]) ⟨hx, hb, hml, hown, hts⟩ (c_X2_yearsKept l D cI cZ cA co akd afa ahd K Hn kd fa (lt h) (hd h) (by first | assumption | omega)) (cwV 2 hts gX5_odds_X2_yearsKept rfl rfl rfl (by decide +kernel) ⟨Nat.le_of_ble_eq_true rfl, Nat.le_of_ble_eq_true rfl⟩) hE hP [1, 2, 3] rfl 0 2 rfl rfl rfl hl.1 rfl (Nat.le_of_ble_eq_true rfl) dX5_odds_96 ⟨Nat.zero_le _, Nat.zero_le _⟩ ?_
                    refine lv_i2l (v := ((ykAt K kd fa (lt h) (hd h)) : Int32).toInt64) hx hb dX5_odds_99 rfl ?_
                    refine lv_lmul hx hb dX5_odds_100 ?_
                    refine lv_lstore_n (lv' := [(3, .long ((abN K kd fa hd lt bd h) * (((ykAt K kd fa (lt h) (hd h)) : Int32).toInt64))), (7, .int (nI h)), (5, .long (blN bd h)), (0, .ref vd), (1, .int years), (2, .int what)]) hx hb dX5_odds_101 rfl hl (by decide) rfl (fun ls hl => ?_)
                    refine lv_lload hx hb dX5_odds_102 (lv_at hl 2 rfl) ?_
                    refine lv_ldc2 (v := 10) hx hb hown k_7 dX5_odds_104 ?_
                    refine lv_lmul hx hb dX5_odds_107 ?_
                    refine lv_lstore (lv' := [(5, .long ((blN bd h) * 10)), (3, .long ((abN K kd fa hd lt bd h) * (((ykAt K kd fa (lt h) (hd h)) : Int32).toInt64))), (7, .int (nI h)), (0, .ref vd), (1, .int years), (2, .int what)]) hx hb dX5_odds_108 hl (by decide) rfl (fun ls hl => ?_)
                    refine lv_iinc (v := nI (h + 1)) (lv' := [(7, .int (nI (h + 1))), (5, .long ((blN bd h) * 10)), (3, .long ((abN K kd fa hd lt bd h) * (((ykAt K kd fa (lt h) (hd h)) : Int32).toInt64))), (0, .ref vd), (1, .int years), (2, .int what)]) hx hb dX5_odds_110 hl (k := 2) rfl (nI_add h 1) (by decide) rfl (fun ls hl => ?_)
                    refine lv_goto (tgt := 45) hx hb dX5_odds_113 (by decide) ?_
                    exact ihhc45_1 (h + 1) (by omega) (by omega) ((abN K kd fa hd lt bd h) * (((ykAt K kd fa (lt h) (hd h)) : Int32).toInt64)) (by rw [abN, if_pos c_68]) ((blN bd h) * 10) (by rw [blN, if_pos c_68]) (nI (h + 1)) rfl ls (lv_sub hl [0, 1, 2, 3, 4, 5] rfl)
            exact hc45_1 (Hn + 1) 0 (by omega) (by omega) 1 rfl 1 rfl 0 rfl ls (lv_sub hl [0, 1, 2, 3, 4, 5] rfl)
          · have c_30 := zb_0 c_30
            refine lv_ldc2 (v := (-103)) hx hb hown k_8 dX5_odds_33 ?_
            exact W.lret (v := (-103)) hx hb hr (fun t ht hW => ⟨(-103), rfl, (by unfold fOddsC; grind), ht⟩) (fun q h => by cases h) dX5_odds_36
        · refine lv_ldc2 (v := (-102)) hx hb hown k_0 dX5_odds_19 ?_
          exact W.lret (v := (-102)) hx hb hr (fun t ht hW => ⟨(-102), rfl, (by unfold fOddsC; grind), ht⟩) (fun q h => by cases h) dX5_odds_22

set_option maxHeartbeats 1000000 in
set_option maxRecDepth 100000 in
theorem c_X5_see (l : Launch) (D : va_G) (cI cZ cA : ClassId) (sz : Nat) (vd : Nat) (pg : Nat) (co : Nat) (bk : Nat) (kb : Nat) (mt : Nat) (rn : Nat) (im : Int32) (tr : Int32) (akd : Nat) (afa : Nat) (ahd : Nat) (K : Nat) (Hn : Nat) (alt : Nat) (abd : Nat) (aeg : Nat) (abr : Nat) (ask : Nat) (ash : Nat) (ast : Nat) (sn : Nat) (yr : Int32) (sk : Nat → Int32) (sh : Nat → Int32) (st : Nat → Int32) (k : Int32) (hd0 : Int32) (kept : Int32) (hS8 : sn ≤ 8) (hkp : kept = 0 ∨ kept = 1) : Met l yX5_see wsX5_see (zr 2) (va_Pc [.ref vd, .int k, .int hd0, .int kept] (zPw D cI cZ cA [(vd, .inr (5, [.ref pg, .ref co, .ref bk, .ref kb, .ref mt, .ref rn, .int im, .int tr])), (co, .inr (2, [.ref akd, .ref afa, .ref ahd, .int (nI K), .int (nI Hn)])), (bk, .inr (0, [.ref alt, .ref abd, .ref aeg, .ref abr, .ref ask, .ref ash, .ref ast, .int (nI sn), .int yr])), (ask, .inl (cI, 8, .inl sk)), (ash, .inl (cI, 8, .inl sh)), (ast, .inl (cZ, 8, .inl st))] sz)) (va_Qi (fun (r : Int32) (_ : Unit) => r = (fSeeC sk sh st K sn k hd0 kept).1) (zB D [(vd, .inr (5, [.ref pg, .ref co, .ref bk, .ref kb, .ref mt, .ref rn, .int im, .int tr])), (co, .inr (2, [.ref akd, .ref afa, .ref ahd, .int (nI K), .int (nI Hn)])), (bk, .inr (0, [.ref alt, .ref abd, .ref aeg, .ref abr, .ref ask, .ref ash, .ref ast, .int (nI ((fSeeC sk sh st K sn k hd0 kept).2.1)), .int yr])), (ask, .inl (cI, 8, .inl ((fSeeC sk sh st K sn k hd0 kept).2.2.1))), (ash, .inl (cI, 8, .inl ((fSeeC sk sh st K sn k hd0 kept).2.2.2.1))), (ast, .inl (cZ, 8, .inl ((fSeeC sk sh st K sn k hd0 kept).2.2.2.2)))] (va_A [(vd, .inr (5, [.ref pg, .ref co, .ref bk, .ref kb, .ref mt, .ref rn, .int im, .int tr])), (co, .inr (2, [.ref akd, .ref afa, .ref ahd, .int (nI K), .int (nI Hn)])), (bk, .inr (0, [.ref alt, .ref abd, .ref aeg, .ref abr, .ref ask, .ref ash, .ref ast, .int (nI sn), .int yr])), (ask, .inl (cI, 8, .inl sk)), (ash, .inl (cI, 8, .inl sh)), (ast, .inl (cZ, 8, .inl st))] sz)) (va_A [(vd, .inr (5, [.ref pg, .ref co, .ref bk, .ref kb, .ref mt, .ref rn, .int im, .int tr])), (co, .inr (2, [.ref akd, .ref afa, .ref ahd, .int (nI K), .int (nI Hn)])), (bk, .inr (0, [.ref alt, .ref abd, .ref aeg, .ref abr, .ref ask, .ref ash, .ref ast, .int (nI sn), .int yr])), (ask, .inl (cI, 8, .inl sk)), (ash, .inl (cI, 8, .inl sh)), (ast, .inl (cZ, 8, .inl st))] sz)) 0 0 (va_A [(vd, .inr (5, [.ref pg, .ref co, .ref bk, .ref kb, .ref mt, .ref rn, .int im, .int tr])), (co, .inr (2, [.ref akd, .ref afa, .ref ahd, .int (nI K), .int (nI Hn)])), (bk, .inr (0, [.ref alt, .ref abd, .ref aeg, .ref abr, .ref ask, .ref ash, .ref ast, .int (nI sn), .int yr])), (ask, .inl (cI, 8, .inl sk)), (ash, .inl (cI, 8, .inl sh)), (ast, .inl (cZ, 8, .inl st))] sz) := by
  refine Met.ofW (cc := cX5_see) (maxL := 4) (ret := (some .int)) (by decide) rfl ?_
  intro p e s m args below meth c s₁ B hml hv
  obtain ⟨rfl, hsz, hP, hD0, hE⟩ := hv
  have hx := B.exec
  have hb := B.bytes
  have hr := B.returns
  have hts := atoms_spec (ws := wsX5_see) B.pre
  have hown : s.vm.findClass RX5 = some m.cls := findClass_of_methodNamed B.named
  have hlocks := B.notSynchronized
  subst hsz
  have hD := hD0.self (sz := s.heap.size)
  generalize hAe : va_A [(vd, .inr (5, [.ref pg, .ref co, .ref bk, .ref kb, .ref mt, .ref rn, .int im, .int tr])), (co, .inr (2, [.ref akd, .ref afa, .ref ahd, .int (nI K), .int (nI Hn)])), (bk, .inr (0, [.ref alt, .ref abd, .ref aeg, .ref abr, .ref ask, .ref ash, .ref ast, .int (nI sn), .int yr])), (ask, .inl (cI, 8, .inl sk)), (ash, .inl (cI, 8, .inl sh)), (ast, .inl (cZ, 8, .inl st))] s.heap.size = A at hD ⊢
  have hA : ∀ q : Nat, s.heap.size ≤ q → A q := fun q h => by rw [← hAe]; exact Or.inr h
  have hS : va_S A s.heap s.heap [] := va_S.rf
  have hP : va_P D vwCl [(vd, .inr (5, [.ref pg, .ref co, .ref bk, .ref kb, .ref mt, .ref rn, .int im, .int tr])), (co, .inr (2, [.ref akd, .ref afa, .ref ahd, .int (nI K), .int (nI Hn)])), (bk, .inr (0, [.ref alt, .ref abd, .ref aeg, .ref abr, .ref ask, .ref ash, .ref ast, .int (nI sn), .int yr])), (ask, .inl (cI, 8, .inl sk)), (ash, .inl (cI, 8, .inl sh)), (ast, .inl (cZ, 8, .inl st))] s.heap := hP
  have hD : va_D A [(vd, .inr (5, [.ref pg, .ref co, .ref bk, .ref kb, .ref mt, .ref rn, .int im, .int tr])), (co, .inr (2, [.ref akd, .ref afa, .ref ahd, .int (nI K), .int (nI Hn)])), (bk, .inr (0, [.ref alt, .ref abd, .ref aeg, .ref abr, .ref ask, .ref ash, .ref ast, .int (nI sn), .int yr])), (ask, .inl (cI, 8, .inl sk)), (ash, .inl (cI, 8, .inl sh)), (ast, .inl (cZ, 8, .inl st))] := hD
  have hl := lv_entry ([.ref vd, .int k, .int hd0, .int kept]) (n := 4) (Nat.le_of_ble_eq_true rfl)
  rw [lg_entry_eq]
  generalize (lg_sl ([.ref vd, .int k, .int hd0, .int kept]) ++ List.replicate (4 - (lg_sl ([.ref vd, .int k, .int hd0, .int kept])).length) Slot.unset).toArray = ls at hl ⊢
  have hl : lv_has ls 4 [(0, .ref vd), (1, .int k), (2, .int hd0), (3, .int kept)] := hl
  have hinX0 : ∀ w ∈ wsX00, w ∈ wsX5_see := fun w h => List.mem_cons_of_mem _ (List.mem_append_left _ (List.mem_append_right _ h))
  have hinX5 : ∀ w ∈ wsX50, w ∈ wsX5_see := fun w h => List.mem_cons_of_mem _ (List.mem_append_left _ (List.mem_append_left _ (List.mem_append_right _ h)))
  have k_0 := hts (.fieldLink RX5 19 "VowDoves" "cote" "LVowDoves$Cote;") (by decide +kernel)
  have k_1 := hts (.fieldLink RX5 26 "VowDoves" "book" "LVowDoves$Book;") (by decide +kernel)
  have k_2 := hts (.fieldLink RX5 170 "VowDoves$Book" "seen" "I") (by decide +kernel)
  have k_3 := hts (.fieldLink RX5 173 "VowDoves$Book" "seenKeepers" "[I") (by decide +kernel)
  have k_4 := hts (.fieldLink RX5 176 "VowDoves$Book" "seenHards" "[I") (by decide +kernel)
  have k_5 := hts (.fieldLink RX5 179 "VowDoves$Book" "seenKept" "[Z") (by decide +kernel)
  refine lv_aload_n hx hb dX5_see_0 rfl (lv_at hl 0 rfl) ?_
  refine va_get (D := D) (ci := 5) (v := .ref co) (C := RX5) (T := TX5) (N := 8) hx hb hts hinX5 hown hE.1 hP 0 rfl rfl 1 (by decide) k_0 (fun _ h9 => h9) rfl dX5_see_1 ?_
  refine lv_iload_n hx hb dX5_see_4 rfl (lv_at hl 1 rfl) ?_
  refine z_roVi (As := [.int k]) (rest := []) ⟨hx, hb, hml, hown, hts⟩ (c_X2_hasKeeper l D cI cZ cA co akd afa ahd K Hn k ) (cwV 1 hts gX5_see_X2_hasKeeper rfl rfl rfl (by decide +kernel) ⟨Nat.le_of_ble_eq_true rfl, Nat.le_of_ble_eq_true rfl⟩) hE hP [1] rfl 0 2 rfl rfl rfl hl.1 rfl (Nat.le_of_ble_eq_true rfl) dX5_see_5 ⟨Nat.zero_le _, Nat.zero_le _⟩ ?_
  refine lv_if_ne (tgt := 14) hx hb dX5_see_8 (by decide) (fun c_8 => ?_) (fun c_8 => ?_)
  · have c_8 := zb_1 c_8
    refine lv_iload_n hx hb dX5_see_14 rfl (lv_at hl 2 rfl) ?_
    refine lv_if_lt (tgt := 24) hx hb dX5_see_15 (by decide) (fun c_15 => ?_) (fun c_15 => ?_)
    · have c_15 := Int32.not_le.mpr c_15
      refine lv_bipush (v := (-102)) hx hb dX5_see_24 (by decide) ?_
      have e9 : (fSeeC sk sh st K sn k hd0 kept) = ((-102), sn, sk, sh, st) := (by unfold fSeeC; grind)
      have hP9 := hP.sub (ws' := [(vd, .inr (5, [.ref pg, .ref co, .ref bk, .ref kb, .ref mt, .ref rn, .int im, .int tr])), (co, .inr (2, [.ref akd, .ref afa, .ref ahd, .int (nI K), .int (nI Hn)])), (bk, .inr (0, [.ref alt, .ref abd, .ref aeg, .ref abr, .ref ask, .ref ash, .ref ast, .int (nI ((fSeeC sk sh st K sn k hd0 kept).2.1)), .int yr])), (ask, .inl (cI, 8, .inl ((fSeeC sk sh st K sn k hd0 kept).2.2.1))), (ash, .inl (cI, 8, .inl ((fSeeC sk sh st K sn k hd0 kept).2.2.2.1))), (ast, .inl (cZ, 8, .inl ((fSeeC sk sh st K sn k hd0 kept).2.2.2.2)))]) [0, 1, 2, 3, 4, 5] (by rw [e9]; try rfl)
      have hD9 := hD.sub (ws' := [(vd, .inr (5, [.ref pg, .ref co, .ref bk, .ref kb, .ref mt, .ref rn, .int im, .int tr])), (co, .inr (2, [.ref akd, .ref afa, .ref ahd, .int (nI K), .int (nI Hn)])), (bk, .inr (0, [.ref alt, .ref abd, .ref aeg, .ref abr, .ref ask, .ref ash, .ref ast, .int (nI ((fSeeC sk sh st K sn k hd0 kept).2.1)), .int yr])), (ask, .inl (cI, 8, .inl ((fSeeC sk sh st K sn k hd0 kept).2.2.1))), (ash, .inl (cI, 8, .inl ((fSeeC sk sh st K sn k hd0 kept).2.2.2.1))), (ast, .inl (cZ, 8, .inl ((fSeeC sk sh st K sn k hd0 kept).2.2.2.2)))]) [0, 1, 2, 3, 4, 5] (by decide) (by rw [e9]; try rfl)
      exact W.iret (v := (-102)) hx hb hr (fun t ht hW => ⟨⟨(-102), (), rfl, (by rw [e9]; try rfl), by rw [ht]; exact hP9, hD9⟩, hS.F ht⟩) hS.2.2 dX5_see_26
    · have c_15 := Int32.not_lt.mp c_15
      refine lv_iload_n hx hb dX5_see_18 rfl (lv_at hl 2 rfl) ?_
      refine lv_bipush (v := 9) hx hb dX5_see_19 (by decide) ?_
      refine lv_icmp_le (tgt := 27) hx hb dX5_see_21 (by decide) (fun c_21 => ?_) (fun c_21 => ?_)
      · refine lv_aload_n hx hb dX5_see_27 rfl (lv_at hl 0 rfl) ?_
        refine va_get (D := D) (ci := 5) (v := .ref bk) (C := RX5) (T := TX5) (N := 8) hx hb hts hinX5 hown hE.1 hP 0 rfl rfl 2 (by decide) k_1 (fun _ h9 => h9) rfl dX5_see_28 ?_
        refine va_get (D := D) (ci := 0) (v := .int (nI sn)) (C := RX0) (T := TX0) (N := 9) hx hb hts hinX0 hown hE.1 hP 2 rfl rfl 7 (by decide) k_2 (fun _ h9 => h9) rfl dX5_see_31 ?_
        refine lv_bipush (v := 8) hx hb dX5_see_34 (by decide) ?_
        refine lv_icmp_lt (tgt := 42) hx hb dX5_see_36 (by decide) (fun c_36 => ?_) (fun c_36 => ?_)
        · have n_36 := zn_lt (a := sn) (b := 8) rfl rfl c_36 (by omega) (by omega)
          refine lv_aload_n hx hb dX5_see_42 rfl (lv_at hl 0 rfl) ?_
          refine va_get (D := D) (ci := 5) (v := .ref bk) (C := RX5) (T := TX5) (N := 8) hx hb hts hinX5 hown hE.1 hP 0 rfl rfl 2 (by decide) k_1 (fun _ h9 => h9) rfl dX5_see_43 ?_
          refine va_get (D := D) (ci := 0) (v := .ref ask) (C := RX0) (T := TX0) (N := 9) hx hb hts hinX0 hown hE.1 hP 2 rfl rfl 4 (by decide) k_3 (fun _ h9 => h9) rfl dX5_see_46 ?_
          refine lv_aload_n hx hb dX5_see_49 rfl (lv_at hl 0 rfl) ?_
          refine va_get (D := D) (ci := 5) (v := .ref bk) (C := RX5) (T := TX5) (N := 8) hx hb hts hinX5 hown hE.1 hP 0 rfl rfl 2 (by decide) k_1 (fun _ h9 => h9) rfl dX5_see_50 ?_
          refine va_get (D := D) (ci := 0) (v := .int (nI sn)) (C := RX0) (T := TX0) (N := 9) hx hb hts hinX0 hown hE.1 hP 2 rfl rfl 7 (by decide) k_2 (fun _ h9 => h9) rfl dX5_see_53 ?_
          refine lv_iload_n hx hb dX5_see_56 rfl (lv_at hl 1 rfl) ?_
          refine z_iast hx hb hE hP hD hS 3 rfl (j := sn) rfl (by omega) (by decide) dX5_see_57 (fun H locs hP hD hS => ?_)
          have hP : va_P D vwCl [(vd, .inr (5, [.ref pg, .ref co, .ref bk, .ref kb, .ref mt, .ref rn, .int im, .int tr])), (co, .inr (2, [.ref akd, .ref afa, .ref ahd, .int (nI K), .int (nI Hn)])), (bk, .inr (0, [.ref alt, .ref abd, .ref aeg, .ref abr, .ref ask, .ref ash, .ref ast, .int (nI sn), .int yr])), (ask, .inl (cI, 8, .inl (upd sk sn k))), (ash, .inl (cI, 8, .inl sh)), (ast, .inl (cZ, 8, .inl st))] H := hP
          have hD : va_D A [(vd, .inr (5, [.ref pg, .ref co, .ref bk, .ref kb, .ref mt, .ref rn, .int im, .int tr])), (co, .inr (2, [.ref akd, .ref afa, .ref ahd, .int (nI K), .int (nI Hn)])), (bk, .inr (0, [.ref alt, .ref abd, .ref aeg, .ref abr, .ref ask, .ref ash, .ref ast, .int (nI sn), .int yr])), (ask, .inl (cI, 8, .inl (upd sk sn k))), (ash, .inl (cI, 8, .inl sh)), (ast, .inl (cZ, 8, .inl st))] := hD
          refine lv_aload_n hx hb dX5_see_58 rfl (lv_at hl 0 rfl) ?_
          refine va_get (D := D) (ci := 5) (v := .ref bk) (C := RX5) (T := TX5) (N := 8) hx hb hts hinX5 hown hE.1 hP 0 rfl rfl 2 (by decide) k_1 (fun _ h9 => h9) rfl dX5_see_59 ?_
          refine va_get (D := D) (ci := 0) (v := .ref ash) (C := RX0) (T := TX0) (N := 9) hx hb hts hinX0 hown hE.1 hP 2 rfl rfl 5 (by decide) k_4 (fun _ h9 => h9) rfl dX5_see_62 ?_
          refine lv_aload_n hx hb dX5_see_65 rfl (lv_at hl 0 rfl) ?_
          refine va_get (D := D) (ci := 5) (v := .ref bk) (C := RX5) (T := TX5) (N := 8) hx hb hts hinX5 hown hE.1 hP 0 rfl rfl 2 (by decide) k_1 (fun _ h9 => h9) rfl dX5_see_66 ?_
          refine va_get (D := D) (ci := 0) (v := .int (nI sn)) (C := RX0) (T := TX0) (N := 9) hx hb hts hinX0 hown hE.1 hP 2 rfl rfl 7 (by decide) k_2 (fun _ h9 => h9) rfl dX5_see_69 ?_
          refine lv_iload_n hx hb dX5_see_72 rfl (lv_at hl 2 rfl) ?_
          refine z_iast hx hb hE hP hD hS 4 rfl (j := sn) rfl (by omega) (by decide) dX5_see_73 (fun H locs hP hD hS => ?_)
          have hP : va_P D vwCl [(vd, .inr (5, [.ref pg, .ref co, .ref bk, .ref kb, .ref mt, .ref rn, .int im, .int tr])), (co, .inr (2, [.ref akd, .ref afa, .ref ahd, .int (nI K), .int (nI Hn)])), (bk, .inr (0, [.ref alt, .ref abd, .ref aeg, .ref abr, .ref ask, .ref ash, .ref ast, .int (nI sn), .int yr])), (ask, .inl (cI, 8, .inl (upd sk sn k))), (ash, .inl (cI, 8, .inl (upd sh sn hd0))), (ast, .inl (cZ, 8, .inl st))] H := hP
          have hD : va_D A [(vd, .inr (5, [.ref pg, .ref co, .ref bk, .ref kb, .ref mt, .ref rn, .int im, .int tr])), (co, .inr (2, [.ref akd, .ref afa, .ref ahd, .int (nI K), .int (nI Hn)])), (bk, .inr (0, [.ref alt, .ref abd, .ref aeg, .ref abr, .ref ask, .ref ash, .ref ast, .int (nI sn), .int yr])), (ask, .inl (cI, 8, .inl (upd sk sn k))), (ash, .inl (cI, 8, .inl (upd sh sn hd0))), (ast, .inl (cZ, 8, .inl st))] := hD
          refine lv_aload_n hx hb dX5_see_74 rfl (lv_at hl 0 rfl) ?_
          refine va_get (D := D) (ci := 5) (v := .ref bk) (C := RX5) (T := TX5) (N := 8) hx hb hts hinX5 hown hE.1 hP 0 rfl rfl 2 (by decide) k_1 (fun _ h9 => h9) rfl dX5_see_75 ?_
          refine va_get (D := D) (ci := 0) (v := .ref ast) (C := RX0) (T := TX0) (N := 9) hx hb hts hinX0 hown hE.1 hP 2 rfl rfl 6 (by decide) k_5 (fun _ h9 => h9) rfl dX5_see_78 ?_
          refine lv_aload_n hx hb dX5_see_81 rfl (lv_at hl 0 rfl) ?_
          refine va_get (D := D) (ci := 5) (v := .ref bk) (C := RX5) (T := TX5) (N := 8) hx hb hts hinX5 hown hE.1 hP 0 rfl rfl 2 (by decide) k_1 (fun _ h9 => h9) rfl dX5_see_82 ?_
          refine va_get (D := D) (ci := 0) (v := .int (nI sn)) (C := RX0) (T := TX0) (N := 9) hx hb hts hinX0 hown hE.1 hP 2 rfl rfl 7 (by decide) k_2 (fun _ h9 => h9) rfl dX5_see_85 ?_
          refine lv_iload_n hx hb dX5_see_88 rfl (lv_at hl 3 rfl) ?_
          refine z_zast hx hb hE hP hD hS 5 rfl (j := sn) rfl (by omega) (by decide) (by rcases hkp with q | q <;> rw [q] <;> rfl) dX5_see_89 (fun H locs hP hD hS => ?_)
          have hP : va_P D vwCl [(vd, .inr (5, [.ref pg, .ref co, .ref bk, .ref kb, .ref mt, .ref rn, .int im, .int tr])), (co, .inr (2, [.ref akd, .ref afa, .ref ahd, .int (nI K), .int (nI Hn)])), (bk, .inr (0, [.ref alt, .ref abd, .ref aeg, .ref abr, .ref ask, .ref ash, .ref ast, .int (nI sn), .int yr])), (ask, .inl (cI, 8, .inl (upd sk sn k))), (ash, .inl (cI, 8, .inl (upd sh sn hd0))), (ast, .inl (cZ, 8, .inl (upd st sn kept)))] H := hP
          have hD : va_D A [(vd, .inr (5, [.ref pg, .ref co, .ref bk, .ref kb, .ref mt, .ref rn, .int im, .int tr])), (co, .inr (2, [.ref akd, .ref afa, .ref ahd, .int (nI K), .int (nI Hn)])), (bk, .inr (0, [.ref alt, .ref abd, .ref aeg, .ref abr, .ref ask, .ref ash, .ref ast, .int (nI sn), .int yr])), (ask, .inl (cI, 8, .inl (upd sk sn k))), (ash, .inl (cI, 8, .inl (upd sh sn hd0))), (ast, .inl (cZ, 8, .inl (upd st sn kept)))] := hD
          refine lv_aload_n hx hb dX5_see_90 rfl (lv_at hl 0 rfl) ?_
          refine va_get (D := D) (ci := 5) (v := .ref bk) (C := RX5) (T := TX5) (N := 8) hx hb hts hinX5 hown hE.1 hP 0 rfl rfl 2 (by decide) k_1 (fun _ h9 => h9) rfl dX5_see_91 ?_
          refine lv_dup hx hb dX5_see_94 rfl ?_
          refine va_get (D := D) (ci := 0) (v := .int (nI sn)) (C := RX0) (T := TX0) (N := 9) hx hb hts hinX0 hown hE.1 hP 2 rfl rfl 7 (by decide) k_2 (fun _ h9 => h9) rfl dX5_see_95 ?_
          refine lv_iconst (v := 1) hx hb dX5_see_98 (by decide) ?_
          refine z_iaddN hx hb (a := sn) (b := 1) rfl rfl dX5_see_99 ?_
          refine va_put (D := D) (ci := 0) (v := .int (nI (sn + 1))) (ty := .int) (C := RX0) (T := TX0) (N := 9) hx hb hts hinX0 tyX0 tyX0_ok nmX0 hown hE.1 hP hD hS 2 rfl rfl 7 (by decide) k_2 (fun _ h9 => h9) rfl (by decide +kernel) rfl rfl (Nat.le_of_ble_eq_true rfl) dX5_see_100 (fun H locs hP hD hS => ?_)
          have hP : va_P D vwCl [(vd, .inr (5, [.ref pg, .ref co, .ref bk, .ref kb, .ref mt, .ref rn, .int im, .int tr])), (co, .inr (2, [.ref akd, .ref afa, .ref ahd, .int (nI K), .int (nI Hn)])), (bk, .inr (0, [.ref alt, .ref abd, .ref aeg, .ref abr, .ref ask, .ref ash, .ref ast, .int (nI (sn + 1)), .int yr])), (ask, .inl (cI, 8, .inl (upd sk sn k))), (ash, .inl (cI, 8, .inl (upd sh sn hd0))), (ast, .inl (cZ, 8, .inl (upd st sn kept)))] H := hP
          have hD : va_D A [(vd, .inr (5, [.ref pg, .ref co, .ref bk, .ref kb, .ref mt, .ref rn, .int im, .int tr])), (co, .inr (2, [.ref akd, .ref afa, .ref ahd, .int (nI K), .int (nI Hn)])), (bk, .inr (0, [.ref alt, .ref abd, .ref aeg, .ref abr, .ref ask, .ref ash, .ref ast, .int (nI (sn + 1)), .int yr])), (ask, .inl (cI, 8, .inl (upd sk sn k))), (ash, .inl (cI, 8, .inl (upd sh sn hd0))), (ast, .inl (cZ, 8, .inl (upd st sn kept)))] := hD
          refine lv_aload_n hx hb dX5_see_103 rfl (lv_at hl 0 rfl) ?_
          refine va_get (D := D) (ci := 5) (v := .ref bk) (C := RX5) (T := TX5) (N := 8) hx hb hts hinX5 hown hE.1 hP 0 rfl rfl 2 (by decide) k_1 (fun _ h9 => h9) rfl dX5_see_104 ?_
          refine va_get (D := D) (ci := 0) (v := .int (nI (sn + 1))) (C := RX0) (T := TX0) (N := 9) hx hb hts hinX0 hown hE.1 hP 2 rfl rfl 7 (by decide) k_2 (fun _ h9 => h9) rfl dX5_see_107 ?_
          have e9 : (fSeeC sk sh st K sn k hd0 kept) = (nI (sn + 1), sn + 1, upd sk sn k, upd sh sn hd0, upd st sn kept) := (by unfold fSeeC; grind)
          have hP9 := hP.sub (ws' := [(vd, .inr (5, [.ref pg, .ref co, .ref bk, .ref kb, .ref mt, .ref rn, .int im, .int tr])), (co, .inr (2, [.ref akd, .ref afa, .ref ahd, .int (nI K), .int (nI Hn)])), (bk, .inr (0, [.ref alt, .ref abd, .ref aeg, .ref abr, .ref ask, .ref ash, .ref ast, .int (nI ((fSeeC sk sh st K sn k hd0 kept).2.1)), .int yr])), (ask, .inl (cI, 8, .inl ((fSeeC sk sh st K sn k hd0 kept).2.2.1))), (ash, .inl (cI, 8, .inl ((fSeeC sk sh st K sn k hd0 kept).2.2.2.1))), (ast, .inl (cZ, 8, .inl ((fSeeC sk sh st K sn k hd0 kept).2.2.2.2)))]) [0, 1, 2, 3, 4, 5] (by rw [e9]; try rfl)
          have hD9 := hD.sub (ws' := [(vd, .inr (5, [.ref pg, .ref co, .ref bk, .ref kb, .ref mt, .ref rn, .int im, .int tr])), (co, .inr (2, [.ref akd, .ref afa, .ref ahd, .int (nI K), .int (nI Hn)])), (bk, .inr (0, [.ref alt, .ref abd, .ref aeg, .ref abr, .ref ask, .ref ash, .ref ast, .int (nI ((fSeeC sk sh st K sn k hd0 kept).2.1)), .int yr])), (ask, .inl (cI, 8, .inl ((fSeeC sk sh st K sn k hd0 kept).2.2.1))), (ash, .inl (cI, 8, .inl ((fSeeC sk sh st K sn k hd0 kept).2.2.2.1))), (ast, .inl (cZ, 8, .inl ((fSeeC sk sh st K sn k hd0 kept).2.2.2.2)))]) [0, 1, 2, 3, 4, 5] (by decide) (by rw [e9]; try rfl)
          exact W.iret (v := nI (sn + 1)) hx hb hr (fun t ht hW => ⟨⟨(nI (sn + 1)), (), rfl, (by rw [e9]; try rfl), by rw [ht]; exact hP9, hD9⟩, hS.F ht⟩) hS.2.2 dX5_see_110
        · have n_36 := zn_nlt (a := sn) (b := 8) rfl rfl c_36 (by omega) (by omega)
          refine lv_bipush (v := (-104)) hx hb dX5_see_39 (by decide) ?_
          have e9 : (fSeeC sk sh st K sn k hd0 kept) = ((-104), sn, sk, sh, st) := (by unfold fSeeC; grind)
          have hP9 := hP.sub (ws' := [(vd, .inr (5, [.ref pg, .ref co, .ref bk, .ref kb, .ref mt, .ref rn, .int im, .int tr])), (co, .inr (2, [.ref akd, .ref afa, .ref ahd, .int (nI K), .int (nI Hn)])), (bk, .inr (0, [.ref alt, .ref abd, .ref aeg, .ref abr, .ref ask, .ref ash, .ref ast, .int (nI ((fSeeC sk sh st K sn k hd0 kept).2.1)), .int yr])), (ask, .inl (cI, 8, .inl ((fSeeC sk sh st K sn k hd0 kept).2.2.1))), (ash, .inl (cI, 8, .inl ((fSeeC sk sh st K sn k hd0 kept).2.2.2.1))), (ast, .inl (cZ, 8, .inl ((fSeeC sk sh st K sn k hd0 kept).2.2.2.2)))]) [0, 1, 2, 3, 4, 5] (by rw [e9]; try rfl)
          have hD9 := hD.sub (ws' := [(vd, .inr (5, [.ref pg, .ref co, .ref bk, .ref kb, .ref mt, .ref rn, .int im, .int tr])), (co, .inr (2, [.ref akd, .ref afa, .ref ahd, .int (nI K), .int (nI Hn)])), (bk, .inr (0, [.ref alt, .ref abd, .ref aeg, .ref abr, .ref ask, .ref ash, .ref ast, .int (nI ((fSeeC sk sh st K sn k hd0 kept).2.1)), .int yr])), (ask, .inl (cI, 8, .inl ((fSeeC sk sh st K sn k hd0 kept).2.2.1))), (ash, .inl (cI, 8, .inl ((fSeeC sk sh st K sn k hd0 kept).2.2.2.1))), (ast, .inl (cZ, 8, .inl ((fSeeC sk sh st K sn k hd0 kept).2.2.2.2)))]) [0, 1, 2, 3, 4, 5] (by decide) (by rw [e9]; try rfl)
          exact W.iret (v := (-104)) hx hb hr (fun t ht hW => ⟨⟨(-104), (), rfl, (by rw [e9]; try rfl), by rw [ht]; exact hP9, hD9⟩, hS.F ht⟩) hS.2.2 dX5_see_41
      · refine lv_bipush (v := (-102)) hx hb dX5_see_24 (by decide) ?_
        have e9 : (fSeeC sk sh st K sn k hd0 kept) = ((-102), sn, sk, sh, st) := (by unfold fSeeC; grind)
        have hP9 := hP.sub (ws' := [(vd, .inr (5, [.ref pg, .ref co, .ref bk, .ref kb, .ref mt, .ref rn, .int im, .int tr])), (co, .inr (2, [.ref akd, .ref afa, .ref ahd, .int (nI K), .int (nI Hn)])), (bk, .inr (0, [.ref alt, .ref abd, .ref aeg, .ref abr, .ref ask, .ref ash, .ref ast, .int (nI ((fSeeC sk sh st K sn k hd0 kept).2.1)), .int yr])), (ask, .inl (cI, 8, .inl ((fSeeC sk sh st K sn k hd0 kept).2.2.1))), (ash, .inl (cI, 8, .inl ((fSeeC sk sh st K sn k hd0 kept).2.2.2.1))), (ast, .inl (cZ, 8, .inl ((fSeeC sk sh st K sn k hd0 kept).2.2.2.2)))]) [0, 1, 2, 3, 4, 5] (by rw [e9]; try rfl)
        have hD9 := hD.sub (ws' := [(vd, .inr (5, [.ref pg, .ref co, .ref bk, .ref kb, .ref mt, .ref rn, .int im, .int tr])), (co, .inr (2, [.ref akd, .ref afa, .ref ahd, .int (nI K), .int (nI Hn)])), (bk, .inr (0, [.ref alt, .ref abd, .ref aeg, .ref abr, .ref ask, .ref ash, .ref ast, .int (nI ((fSeeC sk sh st K sn k hd0 kept).2.1)), .int yr])), (ask, .inl (cI, 8, .inl ((fSeeC sk sh st K sn k hd0 kept).2.2.1))), (ash, .inl (cI, 8, .inl ((fSeeC sk sh st K sn k hd0 kept).2.2.2.1))), (ast, .inl (cZ, 8, .inl ((fSeeC sk sh st K sn k hd0 kept).2.2.2.2)))]) [0, 1, 2, 3, 4, 5] (by decide) (by rw [e9]; try rfl)
        exact W.iret (v := (-102)) hx hb hr (fun t ht hW => ⟨⟨(-102), (), rfl, (by rw [e9]; try rfl), by rw [ht]; exact hP9, hD9⟩, hS.F ht⟩) hS.2.2 dX5_see_26
  · have c_8 := zb_0 c_8
    refine lv_bipush (v := (-101)) hx hb dX5_see_11 (by decide) ?_
    have e9 : (fSeeC sk sh st K sn k hd0 kept) = ((-101), sn, sk, sh, st) := (by unfold fSeeC; grind)
    have hP9 := hP.sub (ws' := [(vd, .inr (5, [.ref pg, .ref co, .ref bk, .ref kb, .ref mt, .ref rn, .int im, .int tr])), (co, .inr (2, [.ref akd, .ref afa, .ref ahd, .int (nI K), .int (nI Hn)])), (bk, .inr (0, [.ref alt, .ref abd, .ref aeg, .ref abr, .ref ask, .ref ash, .ref ast, .int (nI ((fSeeC sk sh st K sn k hd0 kept).2.1)), .int yr])), (ask, .inl (cI, 8, .inl ((fSeeC sk sh st K sn k hd0 kept).2.2.1))), (ash, .inl (cI, 8, .inl ((fSeeC sk sh st K sn k hd0 kept).2.2.2.1))), (ast, .inl (cZ, 8, .inl ((fSeeC sk sh st K sn k hd0 kept).2.2.2.2)))]) [0, 1, 2, 3, 4, 5] (by rw [e9]; try rfl)
    have hD9 := hD.sub (ws' := [(vd, .inr (5, [.ref pg, .ref co, .ref bk, .ref kb, .ref mt, .ref rn, .int im, .int tr])), (co, .inr (2, [.ref akd, .ref afa, .ref ahd, .int (nI K), .int (nI Hn)])), (bk, .inr (0, [.ref alt, .ref abd, .ref aeg, .ref abr, .ref ask, .ref ash, .ref ast, .int (nI ((fSeeC sk sh st K sn k hd0 kept).2.1)), .int yr])), (ask, .inl (cI, 8, .inl ((fSeeC sk sh st K sn k hd0 kept).2.2.1))), (ash, .inl (cI, 8, .inl ((fSeeC sk sh st K sn k hd0 kept).2.2.2.1))), (ast, .inl (cZ, 8, .inl ((fSeeC sk sh st K sn k hd0 kept).2.2.2.2)))]) [0, 1, 2, 3, 4, 5] (by decide) (by rw [e9]; try rfl)
    exact W.iret (v := (-101)) hx hb hr (fun t ht hW => ⟨⟨(-101), (), rfl, (by rw [e9]; try rfl), by rw [ht]; exact hP9, hD9⟩, hS.F ht⟩) hS.2.2 dX5_see_13

set_option maxHeartbeats 1000000 in
set_option maxRecDepth 100000 in
theorem c_X5_forget (l : Launch) (D : va_G) (cI cZ cA : ClassId) (sz : Nat) (vd : Nat) (pg : Nat) (co : Nat) (bk : Nat) (kb : Nat) (mt : Nat) (rn : Nat) (im : Int32) (tr : Int32) (alt : Nat) (abd : Nat) (aeg : Nat) (abr : Nat) (ask : Nat) (ash : Nat) (ast : Nat) (sn : Nat) (yr : Int32)  : Met l yX5_forget wsX5_forget (zr 1) (va_Pc [.ref vd] (zPw D cI cZ cA [(vd, .inr (5, [.ref pg, .ref co, .ref bk, .ref kb, .ref mt, .ref rn, .int im, .int tr])), (bk, .inr (0, [.ref alt, .ref abd, .ref aeg, .ref abr, .ref ask, .ref ash, .ref ast, .int (nI sn), .int yr]))] sz)) (va_Qi (fun (r : Int32) (_ : Unit) => r = nI sn) (zB D [(vd, .inr (5, [.ref pg, .ref co, .ref bk, .ref kb, .ref mt, .ref rn, .int im, .int tr])), (bk, .inr (0, [.ref alt, .ref abd, .ref aeg, .ref abr, .ref ask, .ref ash, .ref ast, .int (nI 0), .int yr]))] (va_A [(vd, .inr (5, [.ref pg, .ref co, .ref bk, .ref kb, .ref mt, .ref rn, .int im, .int tr])), (bk, .inr (0, [.ref alt, .ref abd, .ref aeg, .ref abr, .ref ask, .ref ash, .ref ast, .int (nI sn), .int yr]))] sz)) (va_A [(vd, .inr (5, [.ref pg, .ref co, .ref bk, .ref kb, .ref mt, .ref rn, .int im, .int tr])), (bk, .inr (0, [.ref alt, .ref abd, .ref aeg, .ref abr, .ref ask, .ref ash, .ref ast, .int (nI sn), .int yr]))] sz)) 0 0 (va_A [(vd, .inr (5, [.ref pg, .ref co, .ref bk, .ref kb, .ref mt, .ref rn, .int im, .int tr])), (bk, .inr (0, [.ref alt, .ref abd, .ref aeg, .ref abr, .ref ask, .ref ash, .ref ast, .int (nI sn), .int yr]))] sz) := by
  refine Met.ofW (cc := cX5_forget) (maxL := 2) (ret := (some .int)) (by decide) rfl ?_
  intro p e s m args below meth c s₁ B hml hv
  obtain ⟨rfl, hsz, hP, hD0, hE⟩ := hv
  have hx := B.exec
  have hb := B.bytes
  have hr := B.returns
  have hts := atoms_spec (ws := wsX5_forget) B.pre
  have hown : s.vm.findClass RX5 = some m.cls := findClass_of_methodNamed B.named
  have hlocks := B.notSynchronized
  subst hsz
  have hD := hD0.self (sz := s.heap.size)
  generalize hAe : va_A [(vd, .inr (5, [.ref pg, .ref co, .ref bk, .ref kb, .ref mt, .ref rn, .int im, .int tr])), (bk, .inr (0, [.ref alt, .ref abd, .ref aeg, .ref abr, .ref ask, .ref ash, .ref ast, .int (nI sn), .int yr]))] s.heap.size = A at hD ⊢
  have hA : ∀ q : Nat, s.heap.size ≤ q → A q := fun q h => by rw [← hAe]; exact Or.inr h
  have hS : va_S A s.heap s.heap [] := va_S.rf
  have hP : va_P D vwCl [(vd, .inr (5, [.ref pg, .ref co, .ref bk, .ref kb, .ref mt, .ref rn, .int im, .int tr])), (bk, .inr (0, [.ref alt, .ref abd, .ref aeg, .ref abr, .ref ask, .ref ash, .ref ast, .int (nI sn), .int yr]))] s.heap := hP
  have hD : va_D A [(vd, .inr (5, [.ref pg, .ref co, .ref bk, .ref kb, .ref mt, .ref rn, .int im, .int tr])), (bk, .inr (0, [.ref alt, .ref abd, .ref aeg, .ref abr, .ref ask, .ref ash, .ref ast, .int (nI sn), .int yr]))] := hD
  have hl := lv_entry ([.ref vd]) (n := 2) (Nat.le_of_ble_eq_true rfl)
  rw [lg_entry_eq]
  generalize (lg_sl ([.ref vd]) ++ List.replicate (2 - (lg_sl ([.ref vd])).length) Slot.unset).toArray = ls at hl ⊢
  have hl : lv_has ls 2 [(0, .ref vd)] := hl
  have hinX0 : ∀ w ∈ wsX00, w ∈ wsX5_forget := fun w h => List.mem_cons_of_mem _ (List.mem_append_right _ h)
  have hinX5 : ∀ w ∈ wsX50, w ∈ wsX5_forget := fun w h => List.mem_cons_of_mem _ (List.mem_append_left _ (List.mem_append_right _ h))
  have k_0 := hts (.fieldLink RX5 26 "VowDoves" "book" "LVowDoves$Book;") (by decide +kernel)
  have k_1 := hts (.fieldLink RX5 170 "VowDoves$Book" "seen" "I") (by decide +kernel)
  refine lv_aload_n hx hb dX5_forget_0 rfl (lv_at hl 0 rfl) ?_
  refine va_get (D := D) (ci := 5) (v := .ref bk) (C := RX5) (T := TX5) (N := 8) hx hb hts hinX5 hown hE.1 hP 0 rfl rfl 2 (by decide) k_0 (fun _ h9 => h9) rfl dX5_forget_1 ?_
  refine va_get (D := D) (ci := 0) (v := .int (nI sn)) (C := RX0) (T := TX0) (N := 9) hx hb hts hinX0 hown hE.1 hP 1 rfl rfl 7 (by decide) k_1 (fun _ h9 => h9) rfl dX5_forget_4 ?_
  refine lv_istore_n (lv' := [(1, .int (nI sn)), (0, .ref vd)]) hx hb dX5_forget_7 rfl hl (by decide) rfl (fun ls hl => ?_)
  refine lv_aload_n hx hb dX5_forget_8 rfl (lv_at hl 1 rfl) ?_
  refine va_get (D := D) (ci := 5) (v := .ref bk) (C := RX5) (T := TX5) (N := 8) hx hb hts hinX5 hown hE.1 hP 0 rfl rfl 2 (by decide) k_0 (fun _ h9 => h9) rfl dX5_forget_9 ?_
  refine lv_iconst (v := 0) hx hb dX5_forget_12 (by decide) ?_
  refine va_put (D := D) (ci := 0) (v := .int 0) (ty := .int) (C := RX0) (T := TX0) (N := 9) hx hb hts hinX0 tyX0 tyX0_ok nmX0 hown hE.1 hP hD hS 1 rfl rfl 7 (by decide) k_1 (fun _ h9 => h9) rfl (by decide +kernel) rfl rfl (Nat.le_of_ble_eq_true rfl) dX5_forget_13 (fun H locs hP hD hS => ?_)
  have hP : va_P D vwCl [(vd, .inr (5, [.ref pg, .ref co, .ref bk, .ref kb, .ref mt, .ref rn, .int im, .int tr])), (bk, .inr (0, [.ref alt, .ref abd, .ref aeg, .ref abr, .ref ask, .ref ash, .ref ast, .int 0, .int yr]))] H := hP
  have hD : va_D A [(vd, .inr (5, [.ref pg, .ref co, .ref bk, .ref kb, .ref mt, .ref rn, .int im, .int tr])), (bk, .inr (0, [.ref alt, .ref abd, .ref aeg, .ref abr, .ref ask, .ref ash, .ref ast, .int 0, .int yr]))] := hD
  refine lv_iload_n hx hb dX5_forget_16 rfl (lv_at hl 0 rfl) ?_
  have hP9 := hP.sub (ws' := [(vd, .inr (5, [.ref pg, .ref co, .ref bk, .ref kb, .ref mt, .ref rn, .int im, .int tr])), (bk, .inr (0, [.ref alt, .ref abd, .ref aeg, .ref abr, .ref ask, .ref ash, .ref ast, .int (nI 0), .int yr]))]) [0, 1] rfl
  have hD9 := hD.sub (ws' := [(vd, .inr (5, [.ref pg, .ref co, .ref bk, .ref kb, .ref mt, .ref rn, .int im, .int tr])), (bk, .inr (0, [.ref alt, .ref abd, .ref aeg, .ref abr, .ref ask, .ref ash, .ref ast, .int (nI 0), .int yr]))]) [0, 1] (by decide) rfl
  exact W.iret (v := nI sn) hx hb hr (fun t ht hW => ⟨⟨(nI sn), (), rfl, rfl, by rw [ht]; exact hP9, hD9⟩, hS.F ht⟩) hS.2.2 dX5_forget_17

set_option maxHeartbeats 1000000 in
set_option maxRecDepth 100000 in
theorem c_X5_centuries (l : Launch) (D : va_G) (cI cZ cA : ClassId) (sz : Nat) (vd : Nat) (pg : Nat) (co : Nat) (bk : Nat) (kb : Nat) (mt : Nat) (rn : Nat) (im : Int32) (tr : Int32) (akd : Nat) (afa : Nat) (ahd : Nat) (K : Nat) (Hn : Nat) (alt : Nat) (abd : Nat) (aeg : Nat) (abr : Nat) (ask : Nat) (ash : Nat) (ast : Nat) (sn : Nat) (yr : Int32) (aceg : Nat) (cbk : Int32) (csd : Int64) (kd : Nat → Int32) (fa : Nat → Int32) (hd : Nat → Int32) (lt : Nat → Int32) (bd : Nat → Int32) (eg : Nat → Int32) (ceg : Nat → Int32) (many : Int32) (seed : Int32) (what : Int32) (hK : K ≤ 5) (hH : Hn ≤ 5) : Met l yX5_centuries wsX5_centuries (zr 6) (va_Pc [.ref vd, .int many, .int seed, .int what] (zPw D cI cZ cA [(vd, .inr (5, [.ref pg, .ref co, .ref bk, .ref kb, .ref mt, .ref rn, .int im, .int tr])), (co, .inr (2, [.ref akd, .ref afa, .ref ahd, .int (nI K), .int (nI Hn)])), (akd, .inl (cI, 5, .inl kd)), (afa, .inl (cI, 5, .inl fa)), (ahd, .inl (cI, 5, .inl hd)), (bk, .inr (0, [.ref alt, .ref abd, .ref aeg, .ref abr, .ref ask, .ref ash, .ref ast, .int (nI sn), .int yr])), (alt, .inl (cI, 5, .inl lt)), (abd, .inl (cI, 5, .inl bd)), (aeg, .inl (cI, 5, .inl eg)), (rn, .inr (1, [.ref aceg, .int cbk, .long csd])), (aceg, .inl (cI, 5, .inl ceg))] sz)) (va_Qi (fun (r : Int32) (_ : Unit) => r = (fCenC kd fa hd lt bd eg ceg K Hn cbk csd many seed what).1) (zB D [(vd, .inr (5, [.ref pg, .ref co, .ref bk, .ref kb, .ref mt, .ref rn, .int im, .int tr])), (co, .inr (2, [.ref akd, .ref afa, .ref ahd, .int (nI K), .int (nI Hn)])), (akd, .inl (cI, 5, .inl kd)), (afa, .inl (cI, 5, .inl fa)), (ahd, .inl (cI, 5, .inl hd)), (bk, .inr (0, [.ref alt, .ref abd, .ref aeg, .ref abr, .ref ask, .ref ash, .ref ast, .int (nI sn), .int yr])), (alt, .inl (cI, 5, .inl lt)), (abd, .inl (cI, 5, .inl bd)), (aeg, .inl (cI, 5, .inl eg)), (rn, .inr (1, [.ref aceg, .int ((fCenC kd fa hd lt bd eg ceg K Hn cbk csd many seed what).2.1), .long ((fCenC kd fa hd lt bd eg ceg K Hn cbk csd many seed what).2.2.1)])), (aceg, .inl (cI, 5, .inl ((fCenC kd fa hd lt bd eg ceg K Hn cbk csd many seed what).2.2.2)))] (va_A [(vd, .inr (5, [.ref pg, .ref co, .ref bk, .ref kb, .ref mt, .ref rn, .int im, .int tr])), (co, .inr (2, [.ref akd, .ref afa, .ref ahd, .int (nI K), .int (nI Hn)])), (akd, .inl (cI, 5, .inl kd)), (afa, .inl (cI, 5, .inl fa)), (ahd, .inl (cI, 5, .inl hd)), (bk, .inr (0, [.ref alt, .ref abd, .ref aeg, .ref abr, .ref ask, .ref ash, .ref ast, .int (nI sn), .int yr])), (alt, .inl (cI, 5, .inl lt)), (abd, .inl (cI, 5, .inl bd)), (aeg, .inl (cI, 5, .inl eg)), (rn, .inr (1, [.ref aceg, .int cbk, .long csd])), (aceg, .inl (cI, 5, .inl ceg))] sz)) (va_A [(vd, .inr (5, [.ref pg, .ref co, .ref bk, .ref kb, .ref mt, .ref rn, .int im, .int tr])), (co, .inr (2, [.ref akd, .ref afa, .ref ahd, .int (nI K), .int (nI Hn)])), (akd, .inl (cI, 5, .inl kd)), (afa, .inl (cI, 5, .inl fa)), (ahd, .inl (cI, 5, .inl hd)), (bk, .inr (0, [.ref alt, .ref abd, .ref aeg, .ref abr, .ref ask, .ref ash, .ref ast, .int (nI sn), .int yr])), (alt, .inl (cI, 5, .inl lt)), (abd, .inl (cI, 5, .inl bd)), (aeg, .inl (cI, 5, .inl eg)), (rn, .inr (1, [.ref aceg, .int cbk, .long csd])), (aceg, .inl (cI, 5, .inl ceg))] sz)) 0 0 (va_A [(vd, .inr (5, [.ref pg, .ref co, .ref bk, .ref kb, .ref mt, .ref rn, .int im, .int tr])), (co, .inr (2, [.ref akd, .ref afa, .ref ahd, .int (nI K), .int (nI Hn)])), (akd, .inl (cI, 5, .inl kd)), (afa, .inl (cI, 5, .inl fa)), (ahd, .inl (cI, 5, .inl hd)), (bk, .inr (0, [.ref alt, .ref abd, .ref aeg, .ref abr, .ref ask, .ref ash, .ref ast, .int (nI sn), .int yr])), (alt, .inl (cI, 5, .inl lt)), (abd, .inl (cI, 5, .inl bd)), (aeg, .inl (cI, 5, .inl eg)), (rn, .inr (1, [.ref aceg, .int cbk, .long csd])), (aceg, .inl (cI, 5, .inl ceg))] sz) := by
  refine Met.ofW (cc := cX5_centuries) (maxL := 4) (ret := (some .int)) (by decide) rfl ?_
  intro p e s m args below meth c s₁ B hml hv
  obtain ⟨rfl, hsz, hP, hD0, hE⟩ := hv
  have hx := B.exec
  have hb := B.bytes
  have hr := B.returns
  have hts := atoms_spec (ws := wsX5_centuries) B.pre
  have hown : s.vm.findClass RX5 = some m.cls := findClass_of_methodNamed B.named
  have hlocks := B.notSynchronized
  subst hsz
  have hD := hD0.self (sz := s.heap.size)
  generalize hAe : va_A [(vd, .inr (5, [.ref pg, .ref co, .ref bk, .ref kb, .ref mt, .ref rn, .int im, .int tr])), (co, .inr (2, [.ref akd, .ref afa, .ref ahd, .int (nI K), .int (nI Hn)])), (akd, .inl (cI, 5, .inl kd)), (afa, .inl (cI, 5, .inl fa)), (ahd, .inl (cI, 5, .inl hd)), (bk, .inr (0, [.ref alt, .ref abd, .ref aeg, .ref abr, .ref ask, .ref ash, .ref ast, .int (nI sn), .int yr])), (alt, .inl (cI, 5, .inl lt)), (abd, .inl (cI, 5, .inl bd)), (aeg, .inl (cI, 5, .inl eg)), (rn, .inr (1, [.ref aceg, .int cbk, .long csd])), (aceg, .inl (cI, 5, .inl ceg))] s.heap.size = A at hD ⊢
  have hA : ∀ q : Nat, s.heap.size ≤ q → A q := fun q h => by rw [← hAe]; exact Or.inr h
  have hS : va_S A s.heap s.heap [] := va_S.rf
  have hP : va_P D vwCl [(vd, .inr (5, [.ref pg, .ref co, .ref bk, .ref kb, .ref mt, .ref rn, .int im, .int tr])), (co, .inr (2, [.ref akd, .ref afa, .ref ahd, .int (nI K), .int (nI Hn)])), (akd, .inl (cI, 5, .inl kd)), (afa, .inl (cI, 5, .inl fa)), (ahd, .inl (cI, 5, .inl hd)), (bk, .inr (0, [.ref alt, .ref abd, .ref aeg, .ref abr, .ref ask, .ref ash, .ref ast, .int (nI sn), .int yr])), (alt, .inl (cI, 5, .inl lt)), (abd, .inl (cI, 5, .inl bd)), (aeg, .inl (cI, 5, .inl eg)), (rn, .inr (1, [.ref aceg, .int cbk, .long csd])), (aceg, .inl (cI, 5, .inl ceg))] s.heap := hP
  have hD : va_D A [(vd, .inr (5, [.ref pg, .ref co, .ref bk, .ref kb, .ref mt, .ref rn, .int im, .int tr])), (co, .inr (2, [.ref akd, .ref afa, .ref ahd, .int (nI K), .int (nI Hn)])), (akd, .inl (cI, 5, .inl kd)), (afa, .inl (cI, 5, .inl fa)), (ahd, .inl (cI, 5, .inl hd)), (bk, .inr (0, [.ref alt, .ref abd, .ref aeg, .ref abr, .ref ask, .ref ash, .ref ast, .int (nI sn), .int yr])), (alt, .inl (cI, 5, .inl lt)), (abd, .inl (cI, 5, .inl bd)), (aeg, .inl (cI, 5, .inl eg)), (rn, .inr (1, [.ref aceg, .int cbk, .long csd])), (aceg, .inl (cI, 5, .inl ceg))] := hD
  have hl := lv_entry ([.ref vd, .int many, .int seed, .int what]) (n := 4) (Nat.le_of_ble_eq_true rfl)
  rw [lg_entry_eq]
  generalize (lg_sl ([.ref vd, .int many, .int seed, .int what]) ++ List.replicate (4 - (lg_sl ([.ref vd, .int many, .int seed, .int what])).length) Slot.unset).toArray = ls at hl ⊢
  have hl : lv_has ls 4 [(0, .ref vd), (1, .int many), (2, .int seed), (3, .int what)] := hl
  have hinX1 : ∀ w ∈ wsX10, w ∈ wsX5_centuries := fun w h => List.mem_cons_of_mem _ (List.mem_append_left _ (List.mem_append_left _ (List.mem_append_right _ h)))
  have hinX5 : ∀ w ∈ wsX50, w ∈ wsX5_centuries := fun w h => List.mem_cons_of_mem _ (List.mem_append_left _ (List.mem_append_left _ (List.mem_append_left _ (List.mem_append_right _ h))))
  have k_0 := hts (.fieldLink RX5 19 "VowDoves" "cote" "LVowDoves$Cote;") (by decide +kernel)
  have k_1 := hts (.fieldLink RX5 43 "VowDoves" "run" "LVowDoves$Centuries;") (by decide +kernel)
  have k_2 := hts (.fieldLink RX5 26 "VowDoves" "book" "LVowDoves$Book;") (by decide +kernel)
  have k_3 := hts (.fieldLink RX5 187 "VowDoves$Centuries" "broken" "I") (by decide +kernel)
  have k_4 := hts (.fieldLink RX5 192 "VowDoves$Centuries" "seed" "J") (by decide +kernel)
  refine lv_iload_n hx hb dX5_centuries_0 rfl (lv_at hl 1 rfl) ?_
  refine lv_iconst (v := 1) hx hb dX5_centuries_1 (by decide) ?_
  refine lv_icmp_lt (tgt := 24) hx hb dX5_centuries_2 (by decide) (fun c_2 => ?_) (fun c_2 => ?_)
  · have c_2 := Int32.not_le.mpr c_2
    refine lv_bipush (v := (-102)) hx hb dX5_centuries_24 (by decide) ?_
    have e9 : (fCenC kd fa hd lt bd eg ceg K Hn cbk csd many seed what) = ((-102), cbk, csd, ceg) := (by unfold fCenC; grind)
    have hP9 := hP.sub (ws' := [(vd, .inr (5, [.ref pg, .ref co, .ref bk, .ref kb, .ref mt, .ref rn, .int im, .int tr])), (co, .inr (2, [.ref akd, .ref afa, .ref ahd, .int (nI K), .int (nI Hn)])), (akd, .inl (cI, 5, .inl kd)), (afa, .inl (cI, 5, .inl fa)), (ahd, .inl (cI, 5, .inl hd)), (bk, .inr (0, [.ref alt, .ref abd, .ref aeg, .ref abr, .ref ask, .ref ash, .ref ast, .int (nI sn), .int yr])), (alt, .inl (cI, 5, .inl lt)), (abd, .inl (cI, 5, .inl bd)), (aeg, .inl (cI, 5, .inl eg)), (rn, .inr (1, [.ref aceg, .int ((fCenC kd fa hd lt bd eg ceg K Hn cbk csd many seed what).2.1), .long ((fCenC kd fa hd lt bd eg ceg K Hn cbk csd many seed what).2.2.1)])), (aceg, .inl (cI, 5, .inl ((fCenC kd fa hd lt bd eg ceg K Hn cbk csd many seed what).2.2.2)))]) [0, 1, 2, 3, 4, 5, 6, 7, 8, 9, 10] (by rw [e9]; try rfl)
    have hD9 := hD.sub (ws' := [(vd, .inr (5, [.ref pg, .ref co, .ref bk, .ref kb, .ref mt, .ref rn, .int im, .int tr])), (co, .inr (2, [.ref akd, .ref afa, .ref ahd, .int (nI K), .int (nI Hn)])), (akd, .inl (cI, 5, .inl kd)), (afa, .inl (cI, 5, .inl fa)), (ahd, .inl (cI, 5, .inl hd)), (bk, .inr (0, [.ref alt, .ref abd, .ref aeg, .ref abr, .ref ask, .ref ash, .ref ast, .int (nI sn), .int yr])), (alt, .inl (cI, 5, .inl lt)), (abd, .inl (cI, 5, .inl bd)), (aeg, .inl (cI, 5, .inl eg)), (rn, .inr (1, [.ref aceg, .int ((fCenC kd fa hd lt bd eg ceg K Hn cbk csd many seed what).2.1), .long ((fCenC kd fa hd lt bd eg ceg K Hn cbk csd many seed what).2.2.1)])), (aceg, .inl (cI, 5, .inl ((fCenC kd fa hd lt bd eg ceg K Hn cbk csd many seed what).2.2.2)))]) [0, 1, 2, 3, 4, 5, 6, 7, 8, 9, 10] (by decide) (by rw [e9]; try rfl)
    exact W.iret (v := (-102)) hx hb hr (fun t ht hW => ⟨⟨(-102), (), rfl, (by rw [e9]; try rfl), by rw [ht]; exact hP9, hD9⟩, hS.F ht⟩) hS.2.2 dX5_centuries_26
  · have c_2 := Int32.not_lt.mp c_2
    refine lv_iload_n hx hb dX5_centuries_5 rfl (lv_at hl 1 rfl) ?_
    refine lv_bipush (v := 60) hx hb dX5_centuries_6 (by decide) ?_
    refine lv_icmp_gt (tgt := 24) hx hb dX5_centuries_8 (by decide) (fun c_8 => ?_) (fun c_8 => ?_)
    · have c_8 := Int32.not_le.mpr c_8
      refine lv_bipush (v := (-102)) hx hb dX5_centuries_24 (by decide) ?_
      have e9 : (fCenC kd fa hd lt bd eg ceg K Hn cbk csd many seed what) = ((-102), cbk, csd, ceg) := (by unfold fCenC; grind)
      have hP9 := hP.sub (ws' := [(vd, .inr (5, [.ref pg, .ref co, .ref bk, .ref kb, .ref mt, .ref rn, .int im, .int tr])), (co, .inr (2, [.ref akd, .ref afa, .ref ahd, .int (nI K), .int (nI Hn)])), (akd, .inl (cI, 5, .inl kd)), (afa, .inl (cI, 5, .inl fa)), (ahd, .inl (cI, 5, .inl hd)), (bk, .inr (0, [.ref alt, .ref abd, .ref aeg, .ref abr, .ref ask, .ref ash, .ref ast, .int (nI sn), .int yr])), (alt, .inl (cI, 5, .inl lt)), (abd, .inl (cI, 5, .inl bd)), (aeg, .inl (cI, 5, .inl eg)), (rn, .inr (1, [.ref aceg, .int ((fCenC kd fa hd lt bd eg ceg K Hn cbk csd many seed what).2.1), .long ((fCenC kd fa hd lt bd eg ceg K Hn cbk csd many seed what).2.2.1)])), (aceg, .inl (cI, 5, .inl ((fCenC kd fa hd lt bd eg ceg K Hn cbk csd many seed what).2.2.2)))]) [0, 1, 2, 3, 4, 5, 6, 7, 8, 9, 10] (by rw [e9]; try rfl)
      have hD9 := hD.sub (ws' := [(vd, .inr (5, [.ref pg, .ref co, .ref bk, .ref kb, .ref mt, .ref rn, .int im, .int tr])), (co, .inr (2, [.ref akd, .ref afa, .ref ahd, .int (nI K), .int (nI Hn)])), (akd, .inl (cI, 5, .inl kd)), (afa, .inl (cI, 5, .inl fa)), (ahd, .inl (cI, 5, .inl hd)), (bk, .inr (0, [.ref alt, .ref abd, .ref aeg, .ref abr, .ref ask, .ref ash, .ref ast, .int (nI sn), .int yr])), (alt, .inl (cI, 5, .inl lt)), (abd, .inl (cI, 5, .inl bd)), (aeg, .inl (cI, 5, .inl eg)), (rn, .inr (1, [.ref aceg, .int ((fCenC kd fa hd lt bd eg ceg K Hn cbk csd many seed what).2.1), .long ((fCenC kd fa hd lt bd eg ceg K Hn cbk csd many seed what).2.2.1)])), (aceg, .inl (cI, 5, .inl ((fCenC kd fa hd lt bd eg ceg K Hn cbk csd many seed what).2.2.2)))]) [0, 1, 2, 3, 4, 5, 6, 7, 8, 9, 10] (by decide) (by rw [e9]; try rfl)
      exact W.iret (v := (-102)) hx hb hr (fun t ht hW => ⟨⟨(-102), (), rfl, (by rw [e9]; try rfl), by rw [ht]; exact hP9, hD9⟩, hS.F ht⟩) hS.2.2 dX5_centuries_26
    · have c_8 := Int32.not_lt.mp c_8
      refine lv_iload_n hx hb dX5_centuries_11 rfl (lv_at hl 2 rfl) ?_
      refine lv_if_lt (tgt := 24) hx hb dX5_centuries_12 (by decide) (fun c_12 => ?_) (fun c_12 => ?_)
      · refine lv_bipush (v := (-102)) hx hb dX5_centuries_24 (by decide) ?_
        have e9 : (fCenC kd fa hd lt bd eg ceg K Hn cbk csd many seed what) = ((-102), cbk, csd, ceg) := (by unfold fCenC; grind)
        have hP9 := hP.sub (ws' := [(vd, .inr (5, [.ref pg, .ref co, .ref bk, .ref kb, .ref mt, .ref rn, .int im, .int tr])), (co, .inr (2, [.ref akd, .ref afa, .ref ahd, .int (nI K), .int (nI Hn)])), (akd, .inl (cI, 5, .inl kd)), (afa, .inl (cI, 5, .inl fa)), (ahd, .inl (cI, 5, .inl hd)), (bk, .inr (0, [.ref alt, .ref abd, .ref aeg, .ref abr, .ref ask, .ref ash, .ref ast, .int (nI sn), .int yr])), (alt, .inl (cI, 5, .inl lt)), (abd, .inl (cI, 5, .inl bd)), (aeg, .inl (cI, 5, .inl eg)), (rn, .inr (1, [.ref aceg, .int ((fCenC kd fa hd lt bd eg ceg K Hn cbk csd many seed what).2.1), .long ((fCenC kd fa hd lt bd eg ceg K Hn cbk csd many seed what).2.2.1)])), (aceg, .inl (cI, 5, .inl ((fCenC kd fa hd lt bd eg ceg K Hn cbk csd many seed what).2.2.2)))]) [0, 1, 2, 3, 4, 5, 6, 7, 8, 9, 10] (by rw [e9]; try rfl)
        have hD9 := hD.sub (ws' := [(vd, .inr (5, [.ref pg, .ref co, .ref bk, .ref kb, .ref mt, .ref rn, .int im, .int tr])), (co, .inr (2, [.ref akd, .ref afa, .ref ahd, .int (nI K), .int (nI Hn)])), (akd, .inl (cI, 5, .inl kd)), (afa, .inl (cI, 5, .inl fa)), (ahd, .inl (cI, 5, .inl hd)), (bk, .inr (0, [.ref alt, .ref abd, .ref aeg, .ref abr, .ref ask, .ref ash, .ref ast, .int (nI sn), .int yr])), (alt, .inl (cI, 5, .inl lt)), (abd, .inl (cI, 5, .inl bd)), (aeg, .inl (cI, 5, .inl eg)), (rn, .inr (1, [.ref aceg, .int ((fCenC kd fa hd lt bd eg ceg K Hn cbk csd many seed what).2.1), .long ((fCenC kd fa hd lt bd eg ceg K Hn cbk csd many seed what).2.2.1)])), (aceg, .inl (cI, 5, .inl ((fCenC kd fa hd lt bd eg ceg K Hn cbk csd many seed what).2.2.2)))]) [0, 1, 2, 3, 4, 5, 6, 7, 8, 9, 10] (by decide) (by rw [e9]; try rfl)
        exact W.iret (v := (-102)) hx hb hr (fun t ht hW => ⟨⟨(-102), (), rfl, (by rw [e9]; try rfl), by rw [ht]; exact hP9, hD9⟩, hS.F ht⟩) hS.2.2 dX5_centuries_26
      · refine lv_iload_n hx hb dX5_centuries_15 rfl (lv_at hl 3 rfl) ?_
        refine lv_if_lt (tgt := 24) hx hb dX5_centuries_16 (by decide) (fun c_16 => ?_) (fun c_16 => ?_)
        · have c_16 := Int32.not_le.mpr c_16
          refine lv_bipush (v := (-102)) hx hb dX5_centuries_24 (by decide) ?_
          have e9 : (fCenC kd fa hd lt bd eg ceg K Hn cbk csd many seed what) = ((-102), cbk, csd, ceg) := (by unfold fCenC; grind)
          have hP9 := hP.sub (ws' := [(vd, .inr (5, [.ref pg, .ref co, .ref bk, .ref kb, .ref mt, .ref rn, .int im, .int tr])), (co, .inr (2, [.ref akd, .ref afa, .ref ahd, .int (nI K), .int (nI Hn)])), (akd, .inl (cI, 5, .inl kd)), (afa, .inl (cI, 5, .inl fa)), (ahd, .inl (cI, 5, .inl hd)), (bk, .inr (0, [.ref alt, .ref abd, .ref aeg, .ref abr, .ref ask, .ref ash, .ref ast, .int (nI sn), .int yr])), (alt, .inl (cI, 5, .inl lt)), (abd, .inl (cI, 5, .inl bd)), (aeg, .inl (cI, 5, .inl eg)), (rn, .inr (1, [.ref aceg, .int ((fCenC kd fa hd lt bd eg ceg K Hn cbk csd many seed what).2.1), .long ((fCenC kd fa hd lt bd eg ceg K Hn cbk csd many seed what).2.2.1)])), (aceg, .inl (cI, 5, .inl ((fCenC kd fa hd lt bd eg ceg K Hn cbk csd many seed what).2.2.2)))]) [0, 1, 2, 3, 4, 5, 6, 7, 8, 9, 10] (by rw [e9]; try rfl)
          have hD9 := hD.sub (ws' := [(vd, .inr (5, [.ref pg, .ref co, .ref bk, .ref kb, .ref mt, .ref rn, .int im, .int tr])), (co, .inr (2, [.ref akd, .ref afa, .ref ahd, .int (nI K), .int (nI Hn)])), (akd, .inl (cI, 5, .inl kd)), (afa, .inl (cI, 5, .inl fa)), (ahd, .inl (cI, 5, .inl hd)), (bk, .inr (0, [.ref alt, .ref abd, .ref aeg, .ref abr, .ref ask, .ref ash, .ref ast, .int (nI sn), .int yr])), (alt, .inl (cI, 5, .inl lt)), (abd, .inl (cI, 5, .inl bd)), (aeg, .inl (cI, 5, .inl eg)), (rn, .inr (1, [.ref aceg, .int ((fCenC kd fa hd lt bd eg ceg K Hn cbk csd many seed what).2.1), .long ((fCenC kd fa hd lt bd eg ceg K Hn cbk csd many seed what).2.2.1)])), (aceg, .inl (cI, 5, .inl ((fCenC kd fa hd lt bd eg ceg K Hn cbk csd many seed what).2.2.2)))]) [0, 1, 2, 3, 4, 5, 6, 7, 8, 9, 10] (by decide) (by rw [e9]; try rfl)
          exact W.iret (v := (-102)) hx hb hr (fun t ht hW => ⟨⟨(-102), (), rfl, (by rw [e9]; try rfl), by rw [ht]; exact hP9, hD9⟩, hS.F ht⟩) hS.2.2 dX5_centuries_26
        · have c_16 := Int32.not_lt.mp c_16
          refine lv_iload_n hx hb dX5_centuries_19 rfl (lv_at hl 3 rfl) ?_
          refine lv_iconst (v := 2) hx hb dX5_centuries_20 (by decide) ?_
          refine lv_icmp_le (tgt := 27) hx hb dX5_centuries_21 (by decide) (fun c_21 => ?_) (fun c_21 => ?_)
          · refine lv_aload_n hx hb dX5_centuries_27 rfl (lv_at hl 0 rfl) ?_
            refine va_get (D := D) (ci := 5) (v := .ref co) (C := RX5) (T := TX5) (N := 8) hx hb hts hinX5 hown hE.1 hP 0 rfl rfl 1 (by decide) k_0 (fun _ h9 => h9) rfl dX5_centuries_28 ?_
            refine z_roVi (As := []) (rest := []) ⟨hx, hb, hml, hown, hts⟩ (c_X2_stands l D cI cZ cA co akd afa ahd K Hn (by first | assumption | omega)) (cwV 0 hts gX5_centuries_X2_stands rfl rfl rfl (by decide +kernel) ⟨Nat.le_of_ble_eq_true rfl, Nat.le_of_ble_eq_true rfl⟩) hE hP [1] rfl 0 2 rfl rfl rfl hl.1 rfl (Nat.le_of_ble_eq_true rfl) dX5_centuries_31 ⟨Nat.zero_le _, Nat.zero_le _⟩ ?_
            refine lv_if_ne (tgt := 40) hx hb dX5_centuries_34 (by decide) (fun c_34 => ?_) (fun c_34 => ?_)
            · have c_34 := zb_1 c_34
              obtain ⟨my, hmy, em⟩ := nI_of2 (n := 60) (M := 60) (by decide) (fun q => absurd (Int32.le_trans c_2 (Int32.le_of_lt q)) (by decide)) c_8
              have tmy : many.toNatClampNeg = my := by rw [em, nI_clamp (by omega)]
              refine lv_aload_n hx hb dX5_centuries_40 rfl (lv_at hl 0 rfl) ?_
              refine va_get (D := D) (ci := 5) (v := .ref rn) (C := RX5) (T := TX5) (N := 8) hx hb hts hinX5 hown hE.1 hP 0 rfl rfl 5 (by decide) k_1 (fun _ h9 => h9) rfl dX5_centuries_41 ?_
              refine lv_aload_n hx hb dX5_centuries_44 rfl (lv_at hl 0 rfl) ?_
              refine va_get (D := D) (ci := 5) (v := .ref co) (C := RX5) (T := TX5) (N := 8) hx hb hts hinX5 hown hE.1 hP 0 rfl rfl 1 (by decide) k_0 (fun _ h9 => h9) rfl dX5_centuries_45 ?_
              refine lv_aload_n hx hb dX5_centuries_48 rfl (lv_at hl 0 rfl) ?_
              refine va_get (D := D) (ci := 5) (v := .ref bk) (C := RX5) (T := TX5) (N := 8) hx hb hts hinX5 hown hE.1 hP 0 rfl rfl 2 (by decide) k_2 (fun _ h9 => h9) rfl dX5_centuries_49 ?_
              refine lv_iload_n hx hb dX5_centuries_52 rfl (lv_at hl 1 rfl) ?_
              refine lv_iload_n hx hb dX5_centuries_53 rfl (lv_at hl 2 rfl) ?_
              refine W.eq (g2 := F0 m 54 ls [.int seed, .int (nI my), .ref bk, .ref co, .ref rn]) (by rw [show (many : Int32) = nI my from em]) ?_
              refine z_rwVv (As := [.ref co, .ref bk, .int (nI my), .int seed]) (rest := []) (wr := [(vd, .inr (5, [.ref pg, .ref co, .ref bk, .ref kb, .ref mt, .ref rn, .int im, .int tr]))]) (w1 := [(rn, .inr (1, [.ref aceg, .int ((pY K Hn kd fa hd lt bd (seed.toInt64, 0, eg) my).2.1), .long ((pY K Hn kd fa hd lt bd (seed.toInt64, 0, eg) my).1)])), (aceg, .inl (cI, 5, .inl ((pY K Hn kd fa hd lt bd (seed.toInt64, 0, eg) my).2.2))), (co, .inr (2, [.ref akd, .ref afa, .ref ahd, .int (nI K), .int (nI Hn)])), (akd, .inl (cI, 5, .inl kd)), (afa, .inl (cI, 5, .inl fa)), (ahd, .inl (cI, 5, .inl hd)), (bk, .inr (0, [.ref alt, .ref abd, .ref aeg, .ref abr, .ref ask, .ref ash, .ref ast, .int (nI sn), .int yr])), (alt, .inl (cI, 5, .inl lt)), (abd, .inl (cI, 5, .inl bd)), (aeg, .inl (cI, 5, .inl eg))]) ⟨hx, hb, hml, hown, hts⟩ (c_X1_pass l D cI cZ cA _ rn aceg cbk csd co akd afa ahd K Hn bk alt abd aeg abr ask ash ast sn yr ceg kd fa hd lt bd eg my seed (by first | assumption | omega) (by first | assumption | omega) (by first | assumption | omega)) (cwV 4 hts gX5_centuries_X1_pass rfl rfl rfl (by decide +kernel) ⟨Nat.le_of_ble_eq_true rfl, Nat.le_of_ble_eq_true rfl⟩) hE hP hD hS hA [9, 10, 1, 2, 3, 4, 5, 6, 7, 8] [0] rfl rfl rfl (by decide) (by decide) (by decide) 0 1 rfl rfl rfl hl.1 rfl (Nat.le_of_ble_eq_true rfl) dX5_centuries_54 ⟨Nat.zero_le _, Nat.zero_le _⟩ (fun H locs hP hD hS => ?_)
              have hP : va_P D vwCl [(vd, .inr (5, [.ref pg, .ref co, .ref bk, .ref kb, .ref mt, .ref rn, .int im, .int tr])), (rn, .inr (1, [.ref aceg, .int ((pY K Hn kd fa hd lt bd (seed.toInt64, 0, eg) my).2.1), .long ((pY K Hn kd fa hd lt bd (seed.toInt64, 0, eg) my).1)])), (aceg, .inl (cI, 5, .inl ((pY K Hn kd fa hd lt bd (seed.toInt64, 0, eg) my).2.2))), (co, .inr (2, [.ref akd, .ref afa, .ref ahd, .int (nI K), .int (nI Hn)])), (akd, .inl (cI, 5, .inl kd)), (afa, .inl (cI, 5, .inl fa)), (ahd, .inl (cI, 5, .inl hd)), (bk, .inr (0, [.ref alt, .ref abd, .ref aeg, .ref abr, .ref ask, .ref ash, .ref ast, .int (nI sn), .int yr])), (alt, .inl (cI, 5, .inl lt)), (abd, .inl (cI, 5, .inl bd)), (aeg, .inl (cI, 5, .inl eg))] H := hP
              have hD : va_D A [(vd, .inr (5, [.ref pg, .ref co, .ref bk, .ref kb, .ref mt, .ref rn, .int im, .int tr])), (rn, .inr (1, [.ref aceg, .int ((pY K Hn kd fa hd lt bd (seed.toInt64, 0, eg) my).2.1), .long ((pY K Hn kd fa hd lt bd (seed.toInt64, 0, eg) my).1)])), (aceg, .inl (cI, 5, .inl ((pY K Hn kd fa hd lt bd (seed.toInt64, 0, eg) my).2.2))), (co, .inr (2, [.ref akd, .ref afa, .ref ahd, .int (nI K), .int (nI Hn)])), (akd, .inl (cI, 5, .inl kd)), (afa, .inl (cI, 5, .inl fa)), (ahd, .inl (cI, 5, .inl hd)), (bk, .inr (0, [.ref alt, .ref abd, .ref aeg, .ref abr, .ref ask, .ref ash, .ref ast, .int (nI sn), .int yr])), (alt, .inl (cI, 5, .inl lt)), (abd, .inl (cI, 5, .inl bd)), (aeg, .inl (cI, 5, .inl eg))] := hD
              refine lv_iload_n hx hb dX5_centuries_57 rfl (lv_at hl 3 rfl) ?_
              by_cases c_58_0 : what = 0
              · refine lv_lookup (tgt := 84) hx hb dX5_centuries_58 (by decide) (by rw [c_58_0]; try rfl) (by decide) ?_
                refine lv_aload_n hx hb dX5_centuries_84 rfl (lv_at hl 0 rfl) ?_
                refine va_get (D := D) (ci := 5) (v := .ref rn) (C := RX5) (T := TX5) (N := 8) hx hb hts hinX5 hown hE.1 hP 0 rfl rfl 5 (by decide) k_1 (fun _ h9 => h9) rfl dX5_centuries_85 ?_
                refine va_get (D := D) (ci := 1) (v := .int ((pY K Hn kd fa hd lt bd (seed.toInt64, 0, eg) my).2.1)) (C := RX1) (T := TX1) (N := 3) hx hb hts hinX1 hown hE.1 hP 1 rfl rfl 1 (by decide) k_3 (fun _ h9 => h9) rfl dX5_centuries_88 ?_
                have e9 : (fCenC kd fa hd lt bd eg ceg K Hn cbk csd many seed what) = ((pY K Hn kd fa hd lt bd (seed.toInt64, 0, eg) my).2.1, (pY K Hn kd fa hd lt bd (seed.toInt64, 0, eg) my).2.1, (pY K Hn kd fa hd lt bd (seed.toInt64, 0, eg) my).1, (pY K Hn kd fa hd lt bd (seed.toInt64, 0, eg) my).2.2) := (by rw [fCenC, if_pos ⟨⟨c_2, c_8⟩, c_12, c_16, c_21⟩, if_pos c_34, tmy, cenC]; simp [c_58_0])
                have hP9 := hP.sub (ws' := [(vd, .inr (5, [.ref pg, .ref co, .ref bk, .ref kb, .ref mt, .ref rn, .int im, .int tr])), (co, .inr (2, [.ref akd, .ref afa, .ref ahd, .int (nI K), .int (nI Hn)])), (akd, .inl (cI, 5, .inl kd)), (afa, .inl (cI, 5, .inl fa)), (ahd, .inl (cI, 5, .inl hd)), (bk, .inr (0, [.ref alt, .ref abd, .ref aeg, .ref abr, .ref ask, .ref ash, .ref ast, .int (nI sn), .int yr])), (alt, .inl (cI, 5, .inl lt)), (abd, .inl (cI, 5, .inl bd)), (aeg, .inl (cI, 5, .inl eg)), (rn, .inr (1, [.ref aceg, .int ((fCenC kd fa hd lt bd eg ceg K Hn cbk csd many seed what).2.1), .long ((fCenC kd fa hd lt bd eg ceg K Hn cbk csd many seed what).2.2.1)])), (aceg, .inl (cI, 5, .inl ((fCenC kd fa hd lt bd eg ceg K Hn cbk csd many seed what).2.2.2)))]) [0, 3, 4, 5, 6, 7, 8, 9, 10, 1, 2] (by rw [e9]; try rfl)
                have hD9 := hD.sub (ws' := [(vd, .inr (5, [.ref pg, .ref co, .ref bk, .ref kb, .ref mt, .ref rn, .int im, .int tr])), (co, .inr (2, [.ref akd, .ref afa, .ref ahd, .int (nI K), .int (nI Hn)])), (akd, .inl (cI, 5, .inl kd)), (afa, .inl (cI, 5, .inl fa)), (ahd, .inl (cI, 5, .inl hd)), (bk, .inr (0, [.ref alt, .ref abd, .ref aeg, .ref abr, .ref ask, .ref ash, .ref ast, .int (nI sn), .int yr])), (alt, .inl (cI, 5, .inl lt)), (abd, .inl (cI, 5, .inl bd)), (aeg, .inl (cI, 5, .inl eg)), (rn, .inr (1, [.ref aceg, .int ((fCenC kd fa hd lt bd eg ceg K Hn cbk csd many seed what).2.1), .long ((fCenC kd fa hd lt bd eg ceg K Hn cbk csd many seed what).2.2.1)])), (aceg, .inl (cI, 5, .inl ((fCenC kd fa hd lt bd eg ceg K Hn cbk csd many seed what).2.2.2)))]) [0, 3, 4, 5, 6, 7, 8, 9, 10, 1, 2] (by decide) (by rw [e9]; try rfl)
                exact W.iret (v := (pY K Hn kd fa hd lt bd (seed.toInt64, 0, eg) my).2.1) hx hb hr (fun t ht hW => ⟨⟨((pY K Hn kd fa hd lt bd (seed.toInt64, 0, eg) my).2.1), (), rfl, (by rw [e9]; try rfl), by rw [ht]; exact hP9, hD9⟩, hS.F ht⟩) hS.2.2 dX5_centuries_91
              by_cases c_58_1 : what = 1
              · refine lv_lookup (tgt := 92) hx hb dX5_centuries_58 (by decide) (by rw [c_58_1]; try rfl) (by decide) ?_
                refine lv_aload_n hx hb dX5_centuries_92 rfl (lv_at hl 0 rfl) ?_
                refine va_get (D := D) (ci := 5) (v := .ref rn) (C := RX5) (T := TX5) (N := 8) hx hb hts hinX5 hown hE.1 hP 0 rfl rfl 5 (by decide) k_1 (fun _ h9 => h9) rfl dX5_centuries_93 ?_
                refine z_roVi (As := []) (rest := []) ⟨hx, hb, hml, hown, hts⟩ (c_X1_allEggs l D cI cZ cA rn aceg ((pY K Hn kd fa hd lt bd (seed.toInt64, 0, eg) my).2.1) ((pY K Hn kd fa hd lt bd (seed.toInt64, 0, eg) my).1) ((pY K Hn kd fa hd lt bd (seed.toInt64, 0, eg) my).2.2) ) (cwV 0 hts gX5_centuries_X1_allEggs rfl rfl rfl (by decide +kernel) ⟨Nat.le_of_ble_eq_true rfl, Nat.le_of_ble_eq_true rfl⟩) hE hP [1, 2] rfl 0 1 rfl rfl rfl hl.1 rfl (Nat.le_of_ble_eq_true rfl) dX5_centuries_96 ⟨Nat.zero_le _, Nat.zero_le _⟩ ?_
                have e9 : (fCenC kd fa hd lt bd eg ceg K Hn cbk csd many seed what) = ((sumN ((pY K Hn kd fa hd lt bd (seed.toInt64, 0, eg) my).2.2) 5), (pY K Hn kd fa hd lt bd (seed.toInt64, 0, eg) my).2.1, (pY K Hn kd fa hd lt bd (seed.toInt64, 0, eg) my).1, (pY K Hn kd fa hd lt bd (seed.toInt64, 0, eg) my).2.2) := (by rw [fCenC, if_pos ⟨⟨c_2, c_8⟩, c_12, c_16, c_21⟩, if_pos c_34, tmy, cenC]; simp [c_58_0, c_58_1])
                have hP9 := hP.sub (ws' := [(vd, .inr (5, [.ref pg, .ref co, .ref bk, .ref kb, .ref mt, .ref rn, .int im, .int tr])), (co, .inr (2, [.ref akd, .ref afa, .ref ahd, .int (nI K), .int (nI Hn)])), (akd, .inl (cI, 5, .inl kd)), (afa, .inl (cI, 5, .inl fa)), (ahd, .inl (cI, 5, .inl hd)), (bk, .inr (0, [.ref alt, .ref abd, .ref aeg, .ref abr, .ref ask, .ref ash, .ref ast, .int (nI sn), .int yr])), (alt, .inl (cI, 5, .inl lt)), (abd, .inl (cI, 5, .inl bd)), (aeg, .inl (cI, 5, .inl eg)), (rn, .inr (1, [.ref aceg, .int ((fCenC kd fa hd lt bd eg ceg K Hn cbk csd many seed what).2.1), .long ((fCenC kd fa hd lt bd eg ceg K Hn cbk csd many seed what).2.2.1)])), (aceg, .inl (cI, 5, .inl ((fCenC kd fa hd lt bd eg ceg K Hn cbk csd many seed what).2.2.2)))]) [0, 3, 4, 5, 6, 7, 8, 9, 10, 1, 2] (by rw [e9]; try rfl)
                have hD9 := hD.sub (ws' := [(vd, .inr (5, [.ref pg, .ref co, .ref bk, .ref kb, .ref mt, .ref rn, .int im, .int tr])), (co, .inr (2, [.ref akd, .ref afa, .ref ahd, .int (nI K), .int (nI Hn)])), (akd, .inl (cI, 5, .inl kd)), (afa, .inl (cI, 5, .inl fa)), (ahd, .inl (cI, 5, .inl hd)), (bk, .inr (0, [.ref alt, .ref abd, .ref aeg, .ref abr, .ref ask, .ref ash, .ref ast, .int (nI sn), .int yr])), (alt, .inl (cI, 5, .inl lt)), (abd, .inl (cI, 5, .inl bd)), (aeg, .inl (cI, 5, .inl eg)), (rn, .inr (1, [.ref aceg, .int ((fCenC kd fa hd lt bd eg ceg K Hn cbk csd many seed what).2.1), .long ((fCenC kd fa hd lt bd eg ceg K Hn cbk csd many seed what).2.2.1)])), (aceg, .inl (cI, 5, .inl ((fCenC kd fa hd lt bd eg ceg K Hn cbk csd many seed what).2.2.2)))]) [0, 3, 4, 5, 6, 7, 8, 9, 10, 1, 2] (by decide) (by rw [e9]; try rfl)
                exact W.iret (v := (sumN ((pY K Hn kd fa hd lt bd (seed.toInt64, 0, eg) my).2.2) 5)) hx hb hr (fun t ht hW => ⟨⟨(sumN ((pY K Hn kd fa hd lt bd (seed.toInt64, 0, eg) my).2.2) 5), (), rfl, (by rw [e9]; try rfl), by rw [ht]; exact hP9, hD9⟩, hS.F ht⟩) hS.2.2 dX5_centuries_99
              refine lv_lookup (tgt := 100) hx hb dX5_centuries_58 (by decide) (by show Op.lookupswitch.offset [(0, 26), (1, 34)] 42 what.toInt = 42; rw [lv_osw (k := 0) c_58_0 (by decide), lv_osw (k := 1) c_58_1 (by decide)]; rfl) (by decide) ?_
              refine lv_aload_n hx hb dX5_centuries_100 rfl (lv_at hl 0 rfl) ?_
              refine va_get (D := D) (ci := 5) (v := .ref rn) (C := RX5) (T := TX5) (N := 8) hx hb hts hinX5 hown hE.1 hP 0 rfl rfl 5 (by decide) k_1 (fun _ h9 => h9) rfl dX5_centuries_101 ?_
              refine va_get (D := D) (ci := 1) (v := .long ((pY K Hn kd fa hd lt bd (seed.toInt64, 0, eg) my).1)) (C := RX1) (T := TX1) (N := 3) hx hb hts hinX1 hown hE.1 hP 1 rfl rfl 2 (by decide) k_4 (fun _ h9 => h9) rfl dX5_centuries_104 ?_
              refine lv_l2i (v := ((pY K Hn kd fa hd lt bd (seed.toInt64, 0, eg) my).1 : Int64).toInt32) hx hb dX5_centuries_107 rfl ?_
              have e9 : (fCenC kd fa hd lt bd eg ceg K Hn cbk csd many seed what) = (((pY K Hn kd fa hd lt bd (seed.toInt64, 0, eg) my).1 : Int64).toInt32, (pY K Hn kd fa hd lt bd (seed.toInt64, 0, eg) my).2.1, (pY K Hn kd fa hd lt bd (seed.toInt64, 0, eg) my).1, (pY K Hn kd fa hd lt bd (seed.toInt64, 0, eg) my).2.2) := (by rw [fCenC, if_pos ⟨⟨c_2, c_8⟩, c_12, c_16, c_21⟩, if_pos c_34, tmy, cenC]; simp [c_58_0, c_58_1])
              have hP9 := hP.sub (ws' := [(vd, .inr (5, [.ref pg, .ref co, .ref bk, .ref kb, .ref mt, .ref rn, .int im, .int tr])), (co, .inr (2, [.ref akd, .ref afa, .ref ahd, .int (nI K), .int (nI Hn)])), (akd, .inl (cI, 5, .inl kd)), (afa, .inl (cI, 5, .inl fa)), (ahd, .inl (cI, 5, .inl hd)), (bk, .inr (0, [.ref alt, .ref abd, .ref aeg, .ref abr, .ref ask, .ref ash, .ref ast, .int (nI sn), .int yr])), (alt, .inl (cI, 5, .inl lt)), (abd, .inl (cI, 5, .inl bd)), (aeg, .inl (cI, 5, .inl eg)), (rn, .inr (1, [.ref aceg, .int ((fCenC kd fa hd lt bd eg ceg K Hn cbk csd many seed what).2.1), .long ((fCenC kd fa hd lt bd eg ceg K Hn cbk csd many seed what).2.2.1)])), (aceg, .inl (cI, 5, .inl ((fCenC kd fa hd lt bd eg ceg K Hn cbk csd many seed what).2.2.2)))]) [0, 3, 4, 5, 6, 7, 8, 9, 10, 1, 2] (by rw [e9]; try rfl)
              have hD9 := hD.sub (ws' := [(vd, .inr (5, [.ref pg, .ref co, .ref bk, .ref kb, .ref mt, .ref rn, .int im, .int tr])), (co, .inr (2, [.ref akd, .ref afa, .ref ahd, .int (nI K), .int (nI Hn)])), (akd, .inl (cI, 5, .inl kd)), (afa, .inl (cI, 5, .inl fa)), (ahd, .inl (cI, 5, .inl hd)), (bk, .inr (0, [.ref alt, .ref abd, .ref aeg, .ref abr, .ref ask, .ref ash, .ref ast, .int (nI sn), .int yr])), (alt, .inl (cI, 5, .inl lt)), (abd, .inl (cI, 5, .inl bd)), (aeg, .inl (cI, 5, .inl eg)), (rn, .inr (1, [.ref aceg, .int ((fCenC kd fa hd lt bd eg ceg K Hn cbk csd many seed what).2.1), .long ((fCenC kd fa hd lt bd eg ceg K Hn cbk csd many seed what).2.2.1)])), (aceg, .inl (cI, 5, .inl ((fCenC kd fa hd lt bd eg ceg K Hn cbk csd many seed what).2.2.2)))]) [0, 3, 4, 5, 6, 7, 8, 9, 10, 1, 2] (by decide) (by rw [e9]; try rfl)
              exact W.iret (v := ((pY K Hn kd fa hd lt bd (seed.toInt64, 0, eg) my).1 : Int64).toInt32) hx hb hr (fun t ht hW => ⟨⟨(((pY K Hn kd fa hd lt bd (seed.toInt64, 0, eg) my).1 : Int64).toInt32), (), rfl, (by rw [e9]; try rfl), by rw [ht]; exact hP9, hD9⟩, hS.F ht⟩) hS.2.2 dX5_centuries_108
            · have c_34 := zb_0 c_34
              refine lv_bipush (v := (-103)) hx hb dX5_centuries_37 (by decide) ?_
              have e9 : (fCenC kd fa hd lt bd eg ceg K Hn cbk csd many seed what) = ((-103), cbk, csd, ceg) := (by unfold fCenC; grind)
              have hP9 := hP.sub (ws' := [(vd, .inr (5, [.ref pg, .ref co, .ref bk, .ref kb, .ref mt, .ref rn, .int im, .int tr])), (co, .inr (2, [.ref akd, .ref afa, .ref ahd, .int (nI K), .int (nI Hn)])), (akd, .inl (cI, 5, .inl kd)), (afa, .inl (cI, 5, .inl fa)), (ahd, .inl (cI, 5, .inl hd)), (bk, .inr (0, [.ref alt, .ref abd, .ref aeg, .ref abr, .ref ask, .ref ash, .ref ast, .int (nI sn), .int yr])), (alt, .inl (cI, 5, .inl lt)), (abd, .inl (cI, 5, .inl bd)), (aeg, .inl (cI, 5, .inl eg)), (rn, .inr (1, [.ref aceg, .int ((fCenC kd fa hd lt bd eg ceg K Hn cbk csd many seed what).2.1), .long ((fCenC kd fa hd lt bd eg ceg K Hn cbk csd many seed what).2.2.1)])), (aceg, .inl (cI, 5, .inl ((fCenC kd fa hd lt bd eg ceg K Hn cbk csd many seed what).2.2.2)))]) [0, 1, 2, 3, 4, 5, 6, 7, 8, 9, 10] (by rw [e9]; try rfl)
              have hD9 := hD.sub (ws' := [(vd, .inr (5, [.ref pg, .ref co, .ref bk, .ref kb, .ref mt, .ref rn, .int im, .int tr])), (co, .inr (2, [.ref akd, .ref afa, .ref ahd, .int (nI K), .int (nI Hn)])), (akd, .inl (cI, 5, .inl kd)), (afa, .inl (cI, 5, .inl fa)), (ahd, .inl (cI, 5, .inl hd)), (bk, .inr (0, [.ref alt, .ref abd, .ref aeg, .ref abr, .ref ask, .ref ash, .ref ast, .int (nI sn), .int yr])), (alt, .inl (cI, 5, .inl lt)), (abd, .inl (cI, 5, .inl bd)), (aeg, .inl (cI, 5, .inl eg)), (rn, .inr (1, [.ref aceg, .int ((fCenC kd fa hd lt bd eg ceg K Hn cbk csd many seed what).2.1), .long ((fCenC kd fa hd lt bd eg ceg K Hn cbk csd many seed what).2.2.1)])), (aceg, .inl (cI, 5, .inl ((fCenC kd fa hd lt bd eg ceg K Hn cbk csd many seed what).2.2.2)))]) [0, 1, 2, 3, 4, 5, 6, 7, 8, 9, 10] (by decide) (by rw [e9]; try rfl)
              exact W.iret (v := (-103)) hx hb hr (fun t ht hW => ⟨⟨(-103), (), rfl, (by rw [e9]; try rfl), by rw [ht]; exact hP9, hD9⟩, hS.F ht⟩) hS.2.2 dX5_centuries_39
          · refine lv_bipush (v := (-102)) hx hb dX5_centuries_24 (by decide) ?_
            have e9 : (fCenC kd fa hd lt bd eg ceg K Hn cbk csd many seed what) = ((-102), cbk, csd, ceg) := (by unfold fCenC; grind)
            have hP9 := hP.sub (ws' := [(vd, .inr (5, [.ref pg, .ref co, .ref bk, .ref kb, .ref mt, .ref rn, .int im, .int tr])), (co, .inr (2, [.ref akd, .ref afa, .ref ahd, .int (nI K), .int (nI Hn)])), (akd, .inl (cI, 5, .inl kd)), (afa, .inl (cI, 5, .inl fa)), (ahd, .inl (cI, 5, .inl hd)), (bk, .inr (0, [.ref alt, .ref abd, .ref aeg, .ref abr, .ref ask, .ref ash, .ref ast, .int (nI sn), .int yr])), (alt, .inl (cI, 5, .inl lt)), (abd, .inl (cI, 5, .inl bd)), (aeg, .inl (cI, 5, .inl eg)), (rn, .inr (1, [.ref aceg, .int ((fCenC kd fa hd lt bd eg ceg K Hn cbk csd many seed what).2.1), .long ((fCenC kd fa hd lt bd eg ceg K Hn cbk csd many seed what).2.2.1)])), (aceg, .inl (cI, 5, .inl ((fCenC kd fa hd lt bd eg ceg K Hn cbk csd many seed what).2.2.2)))]) [0, 1, 2, 3, 4, 5, 6, 7, 8, 9, 10] (by rw [e9]; try rfl)
            have hD9 := hD.sub (ws' := [(vd, .inr (5, [.ref pg, .ref co, .ref bk, .ref kb, .ref mt, .ref rn, .int im, .int tr])), (co, .inr (2, [.ref akd, .ref afa, .ref ahd, .int (nI K), .int (nI Hn)])), (akd, .inl (cI, 5, .inl kd)), (afa, .inl (cI, 5, .inl fa)), (ahd, .inl (cI, 5, .inl hd)), (bk, .inr (0, [.ref alt, .ref abd, .ref aeg, .ref abr, .ref ask, .ref ash, .ref ast, .int (nI sn), .int yr])), (alt, .inl (cI, 5, .inl lt)), (abd, .inl (cI, 5, .inl bd)), (aeg, .inl (cI, 5, .inl eg)), (rn, .inr (1, [.ref aceg, .int ((fCenC kd fa hd lt bd eg ceg K Hn cbk csd many seed what).2.1), .long ((fCenC kd fa hd lt bd eg ceg K Hn cbk csd many seed what).2.2.1)])), (aceg, .inl (cI, 5, .inl ((fCenC kd fa hd lt bd eg ceg K Hn cbk csd many seed what).2.2.2)))]) [0, 1, 2, 3, 4, 5, 6, 7, 8, 9, 10] (by decide) (by rw [e9]; try rfl)
            exact W.iret (v := (-102)) hx hb hr (fun t ht hW => ⟨⟨(-102), (), rfl, (by rw [e9]; try rfl), by rw [ht]; exact hP9, hD9⟩, hS.F ht⟩) hS.2.2 dX5_centuries_26

set_option maxHeartbeats 1000000 in
set_option maxRecDepth 100000 in
theorem c_X5_image (l : Launch) (D : va_G) (cI cZ cA : ClassId) (sz : Nat) (vd : Nat) (pg : Nat) (co : Nat) (bk : Nat) (kb : Nat) (mt : Nat) (rn : Nat) (im : Int32) (tr : Int32) (akd : Nat) (afa : Nat) (ahd : Nat) (K : Nat) (Hn : Nat) (alt : Nat) (abd : Nat) (aeg : Nat) (abr : Nat) (ask : Nat) (ash : Nat) (ast : Nat) (sn : Nat) (yr : Int32) (lt : Nat → Int32) (bd : Nat → Int32) (eg : Nat → Int32) (br : Nat → Int32) (sk : Nat → Int32) (sh : Nat → Int32) (st : Nat → Int32) (alt2 : Nat) (abd2 : Nat) (aeg2 : Nat) (abr2 : Nat) (ask2 : Nat) (ash2 : Nat) (ast2 : Nat) (sn2 : Nat) (yr2 : Int32) (lt2 : Nat → Int32) (bd2 : Nat → Int32) (eg2 : Nat → Int32) (br2 : Nat → Int32) (sk2 : Nat → Int32) (sh2 : Nat → Int32) (st2 : Nat → Int32) (hK : K ≤ 5) (hK0 : 0 < K) (hst : stOk st) : Met l yX5_image wsX5_image (zr 2) (va_Pc [.ref vd] (zPw D cI cZ cA [(vd, .inr (5, [.ref pg, .ref co, .ref bk, .ref kb, .ref mt, .ref rn, .int im, .int tr])), (co, .inr (2, [.ref akd, .ref afa, .ref ahd, .int (nI K), .int (nI Hn)])), (bk, .inr (0, [.ref alt, .ref abd, .ref aeg, .ref abr, .ref ask, .ref ash, .ref ast, .int (nI sn), .int yr])), (alt, .inl (cI, 5, .inl lt)), (abd, .inl (cI, 5, .inl bd)), (aeg, .inl (cI, 5, .inl eg)), (abr, .inl (cI, 5, .inl br)), (ask, .inl (cI, 8, .inl sk)), (ash, .inl (cI, 8, .inl sh)), (ast, .inl (cZ, 8, .inl st)), (kb, .inr (0, [.ref alt2, .ref abd2, .ref aeg2, .ref abr2, .ref ask2, .ref ash2, .ref ast2, .int (nI sn2), .int yr2])), (alt2, .inl (cI, 5, .inl lt2)), (abd2, .inl (cI, 5, .inl bd2)), (aeg2, .inl (cI, 5, .inl eg2)), (abr2, .inl (cI, 5, .inl br2)), (ask2, .inl (cI, 8, .inl sk2)), (ash2, .inl (cI, 8, .inl sh2)), (ast2, .inl (cZ, 8, .inl st2))] sz)) (va_Qi (fun (r : Int32) (_ : Unit) => r = yr) (zB D [(vd, .inr (5, [.ref pg, .ref co, .ref bk, .ref kb, .ref mt, .ref rn, .int 1, .int tr])), (co, .inr (2, [.ref akd, .ref afa, .ref ahd, .int (nI K), .int (nI Hn)])), (bk, .inr (0, [.ref alt, .ref abd, .ref aeg, .ref abr, .ref ask, .ref ash, .ref ast, .int (nI sn), .int yr])), (alt, .inl (cI, 5, .inl lt)), (abd, .inl (cI, 5, .inl bd)), (aeg, .inl (cI, 5, .inl eg)), (abr, .inl (cI, 5, .inl br)), (ask, .inl (cI, 8, .inl sk)), (ash, .inl (cI, 8, .inl sh)), (ast, .inl (cZ, 8, .inl st)), (kb, .inr (0, [.ref alt2, .ref abd2, .ref aeg2, .ref abr2, .ref ask2, .ref ash2, .ref ast2, .int (nI sn), .int yr])), (alt2, .inl (cI, 5, .inl lt)), (abd2, .inl (cI, 5, .inl bd)), (aeg2, .inl (cI, 5, .inl eg)), (abr2, .inl (cI, 5, .inl br)), (ask2, .inl (cI, 8, .inl sk)), (ash2, .inl (cI, 8, .inl sh)), (ast2, .inl (cZ, 8, .inl st))] (va_A [(vd, .inr (5, [.ref pg, .ref co, .ref bk, .ref kb, .ref mt, .ref rn, .int im, .int tr])), (co, .inr (2, [.ref akd, .ref afa, .ref ahd, .int (nI K), .int (nI Hn)])), (bk, .inr (0, [.ref alt, .ref abd, .ref aeg, .ref abr, .ref ask, .ref ash, .ref ast, .int (nI sn), .int yr])), (alt, .inl (cI, 5, .inl lt)), (abd, .inl (cI, 5, .inl bd)), (aeg, .inl (cI, 5, .inl eg)), (abr, .inl (cI, 5, .inl br)), (ask, .inl (cI, 8, .inl sk)), (ash, .inl (cI, 8, .inl sh)), (ast, .inl (cZ, 8, .inl st)), (kb, .inr (0, [.ref alt2, .ref abd2, .ref aeg2, .ref abr2, .ref ask2, .ref ash2, .ref ast2, .int (nI sn2), .int yr2])), (alt2, .inl (cI, 5, .inl lt2)), (abd2, .inl (cI, 5, .inl bd2)), (aeg2, .inl (cI, 5, .inl eg2)), (abr2, .inl (cI, 5, .inl br2)), (ask2, .inl (cI, 8, .inl sk2)), (ash2, .inl (cI, 8, .inl sh2)), (ast2, .inl (cZ, 8, .inl st2))] sz)) (va_A [(vd, .inr (5, [.ref pg, .ref co, .ref bk, .ref kb, .ref mt, .ref rn, .int im, .int tr])), (co, .inr (2, [.ref akd, .ref afa, .ref ahd, .int (nI K), .int (nI Hn)])), (bk, .inr (0, [.ref alt, .ref abd, .ref aeg, .ref abr, .ref ask, .ref ash, .ref ast, .int (nI sn), .int yr])), (alt, .inl (cI, 5, .inl lt)), (abd, .inl (cI, 5, .inl bd)), (aeg, .inl (cI, 5, .inl eg)), (abr, .inl (cI, 5, .inl br)), (ask, .inl (cI, 8, .inl sk)), (ash, .inl (cI, 8, .inl sh)), (ast, .inl (cZ, 8, .inl st)), (kb, .inr (0, [.ref alt2, .ref abd2, .ref aeg2, .ref abr2, .ref ask2, .ref ash2, .ref ast2, .int (nI sn2), .int yr2])), (alt2, .inl (cI, 5, .inl lt2)), (abd2, .inl (cI, 5, .inl bd2)), (aeg2, .inl (cI, 5, .inl eg2)), (abr2, .inl (cI, 5, .inl br2)), (ask2, .inl (cI, 8, .inl sk2)), (ash2, .inl (cI, 8, .inl sh2)), (ast2, .inl (cZ, 8, .inl st2))] sz)) 0 0 (va_A [(vd, .inr (5, [.ref pg, .ref co, .ref bk, .ref kb, .ref mt, .ref rn, .int im, .int tr])), (co, .inr (2, [.ref akd, .ref afa, .ref ahd, .int (nI K), .int (nI Hn)])), (bk, .inr (0, [.ref alt, .ref abd, .ref aeg, .ref abr, .ref ask, .ref ash, .ref ast, .int (nI sn), .int yr])), (alt, .inl (cI, 5, .inl lt)), (abd, .inl (cI, 5, .inl bd)), (aeg, .inl (cI, 5, .inl eg)), (abr, .inl (cI, 5, .inl br)), (ask, .inl (cI, 8, .inl sk)), (ash, .inl (cI, 8, .inl sh)), (ast, .inl (cZ, 8, .inl st)), (kb, .inr (0, [.ref alt2, .ref abd2, .ref aeg2, .ref abr2, .ref ask2, .ref ash2, .ref ast2, .int (nI sn2), .int yr2])), (alt2, .inl (cI, 5, .inl lt2)), (abd2, .inl (cI, 5, .inl bd2)), (aeg2, .inl (cI, 5, .inl eg2)), (abr2, .inl (cI, 5, .inl br2)), (ask2, .inl (cI, 8, .inl sk2)), (ash2, .inl (cI, 8, .inl sh2)), (ast2, .inl (cZ, 8, .inl st2))] sz) := by
  refine Met.ofW (cc := cX5_image) (maxL := 1) (ret := (some .int)) (by decide) rfl ?_
  intro p e s m args below meth c s₁ B hml hv
  obtain ⟨rfl, hsz, hP, hD0, hE⟩ := hv
  have hx := B.exec
  have hb := B.bytes
  have hr := B.returns
  have hts := atoms_spec (ws := wsX5_image) B.pre
  have hown : s.vm.findClass RX5 = some m.cls := findClass_of_methodNamed B.named
  have hlocks := B.notSynchronized
  subst hsz
  have hD := hD0.self (sz := s.heap.size)
  generalize hAe : va_A [(vd, .inr (5, [.ref pg, .ref co, .ref bk, .ref kb, .ref mt, .ref rn, .int im, .int tr])), (co, .inr (2, [.ref akd, .ref afa, .ref ahd, .int (nI K), .int (nI Hn)])), (bk, .inr (0, [.ref alt, .ref abd, .ref aeg, .ref abr, .ref ask, .ref ash, .ref ast, .int (nI sn), .int yr])), (alt, .inl (cI, 5, .inl lt)), (abd, .inl (cI, 5, .inl bd)), (aeg, .inl (cI, 5, .inl eg)), (abr, .inl (cI, 5, .inl br)), (ask, .inl (cI, 8, .inl sk)), (ash, .inl (cI, 8, .inl sh)), (ast, .inl (cZ, 8, .inl st)), (kb, .inr (0, [.ref alt2, .ref abd2, .ref aeg2, .ref abr2, .ref ask2, .ref ash2, .ref ast2, .int (nI sn2), .int yr2])), (alt2, .inl (cI, 5, .inl lt2)), (abd2, .inl (cI, 5, .inl bd2)), (aeg2, .inl (cI, 5, .inl eg2)), (abr2, .inl (cI, 5, .inl br2)), (ask2, .inl (cI, 8, .inl sk2)), (ash2, .inl (cI, 8, .inl sh2)), (ast2, .inl (cZ, 8, .inl st2))] s.heap.size = A at hD ⊢
  have hA : ∀ q : Nat, s.heap.size ≤ q → A q := fun q h => by rw [← hAe]; exact Or.inr h
  have hS : va_S A s.heap s.heap [] := va_S.rf
  have hP : va_P D vwCl [(vd, .inr (5, [.ref pg, .ref co, .ref bk, .ref kb, .ref mt, .ref rn, .int im, .int tr])), (co, .inr (2, [.ref akd, .ref afa, .ref ahd, .int (nI K), .int (nI Hn)])), (bk, .inr (0, [.ref alt, .ref abd, .ref aeg, .ref abr, .ref ask, .ref ash, .ref ast, .int (nI sn), .int yr])), (alt, .inl (cI, 5, .inl lt)), (abd, .inl (cI, 5, .inl bd)), (aeg, .inl (cI, 5, .inl eg)), (abr, .inl (cI, 5, .inl br)), (ask, .inl (cI, 8, .inl sk)), (ash, .inl (cI, 8, .inl sh)), (ast, .inl (cZ, 8, .inl st)), (kb, .inr (0, [.ref alt2, .ref abd2, .ref aeg2, .ref abr2, .ref ask2, .ref ash2, .ref ast2, .int (nI sn2), .int yr2])), (alt2, .inl (cI, 5, .inl lt2)), (abd2, .inl (cI, 5, .inl bd2)), (aeg2, .inl (cI, 5, .inl eg2)), (abr2, .inl (cI, 5, .inl br2)), (ask2, .inl (cI, 8, .inl sk2)), (ash2, .inl (cI, 8, .inl sh2)), (ast2, .inl (cZ, 8, .inl st2))] s.heap := hP
  have hD : va_D A [(vd, .inr (5, [.ref pg, .ref co, .ref bk, .ref kb, .ref mt, .ref rn, .int im, .int tr])), (co, .inr (2, [.ref akd, .ref afa, .ref ahd, .int (nI K), .int (nI Hn)])), (bk, .inr (0, [.ref alt, .ref abd, .ref aeg, .ref abr, .ref ask, .ref ash, .ref ast, .int (nI sn), .int yr])), (alt, .inl (cI, 5, .inl lt)), (abd, .inl (cI, 5, .inl bd)), (aeg, .inl (cI, 5, .inl eg)), (abr, .inl (cI, 5, .inl br)), (ask, .inl (cI, 8, .inl sk)), (ash, .inl (cI, 8, .inl sh)), (ast, .inl (cZ, 8, .inl st)), (kb, .inr (0, [.ref alt2, .ref abd2, .ref aeg2, .ref abr2, .ref ask2, .ref ash2, .ref ast2, .int (nI sn2), .int yr2])), (alt2, .inl (cI, 5, .inl lt2)), (abd2, .inl (cI, 5, .inl bd2)), (aeg2, .inl (cI, 5, .inl eg2)), (abr2, .inl (cI, 5, .inl br2)), (ask2, .inl (cI, 8, .inl sk2)), (ash2, .inl (cI, 8, .inl sh2)), (ast2, .inl (cZ, 8, .inl st2))] := hD
  have hl := lv_entry ([.ref vd]) (n := 1) (Nat.le_of_ble_eq_true rfl)
  rw [lg_entry_eq]
  generalize (lg_sl ([.ref vd]) ++ List.replicate (1 - (lg_sl ([.ref vd])).length) Slot.unset).toArray = ls at hl ⊢
  have hl : lv_has ls 1 [(0, .ref vd)] := hl
  have hinX0 : ∀ w ∈ wsX00, w ∈ wsX5_image := fun w h => List.mem_cons_of_mem _ (List.mem_append_left _ (List.mem_append_right _ h))
  have hinX5 : ∀ w ∈ wsX50, w ∈ wsX5_image := fun w h => List.mem_cons_of_mem _ (List.mem_append_left _ (List.mem_append_left _ (List.mem_append_right _ h)))
  have k_0 := hts (.fieldLink RX5 19 "VowDoves" "cote" "LVowDoves$Cote;") (by decide +kernel)
  have k_1 := hts (.fieldLink RX5 30 "VowDoves" "keptBook" "LVowDoves$Book;") (by decide +kernel)
  have k_2 := hts (.fieldLink RX5 26 "VowDoves" "book" "LVowDoves$Book;") (by decide +kernel)
  have k_3 := hts (.fieldLink RX5 47 "VowDoves" "isImageKept" "Z") (by decide +kernel)
  have k_4 := hts (.fieldLink RX5 144 "VowDoves$Book" "years" "I") (by decide +kernel)
  refine lv_aload_n hx hb dX5_image_0 rfl (lv_at hl 0 rfl) ?_
  refine va_get (D := D) (ci := 5) (v := .ref co) (C := RX5) (T := TX5) (N := 8) hx hb hts hinX5 hown hE.1 hP 0 rfl rfl 1 (by decide) k_0 (fun _ h9 => h9) rfl dX5_image_1 ?_
  refine z_roVi (As := []) (rest := []) ⟨hx, hb, hml, hown, hts⟩ (c_X2_stands l D cI cZ cA co akd afa ahd K Hn (by first | assumption | omega)) (cwV 0 hts gX5_image_X2_stands rfl rfl rfl (by decide +kernel) ⟨Nat.le_of_ble_eq_true rfl, Nat.le_of_ble_eq_true rfl⟩) hE hP [1] rfl 0 2 rfl rfl rfl hl.1 rfl (Nat.le_of_ble_eq_true rfl) dX5_image_4 ⟨Nat.zero_le _, Nat.zero_le _⟩ ?_
  refine lv_if_ne (tgt := 13) hx hb dX5_image_7 (by decide) (fun c_7 => ?_) (fun c_7 => ?_)
  · have c_7 := zb_1 c_7
    refine lv_aload_n hx hb dX5_image_13 rfl (lv_at hl 0 rfl) ?_
    refine va_get (D := D) (ci := 5) (v := .ref kb) (C := RX5) (T := TX5) (N := 8) hx hb hts hinX5 hown hE.1 hP 0 rfl rfl 3 (by decide) k_1 (fun _ h9 => h9) rfl dX5_image_14 ?_
    refine lv_aload_n hx hb dX5_image_17 rfl (lv_at hl 0 rfl) ?_
    refine va_get (D := D) (ci := 5) (v := .ref bk) (C := RX5) (T := TX5) (N := 8) hx hb hts hinX5 hown hE.1 hP 0 rfl rfl 2 (by decide) k_2 (fun _ h9 => h9) rfl dX5_image_18 ?_
    refine z_rwVv (As := [.ref bk]) (rest := []) (wr := [(vd, .inr (5, [.ref pg, .ref co, .ref bk, .ref kb, .ref mt, .ref rn, .int im, .int tr])), (co, .inr (2, [.ref akd, .ref afa, .ref ahd, .int (nI K), .int (nI Hn)]))]) (w1 := [(kb, .inr (0, [.ref alt2, .ref abd2, .ref aeg2, .ref abr2, .ref ask2, .ref ash2, .ref ast2, .int (nI sn), .int yr])), (alt2, .inl (cI, 5, .inl lt)), (abd2, .inl (cI, 5, .inl bd)), (aeg2, .inl (cI, 5, .inl eg)), (abr2, .inl (cI, 5, .inl br)), (ask2, .inl (cI, 8, .inl sk)), (ash2, .inl (cI, 8, .inl sh)), (ast2, .inl (cZ, 8, .inl st)), (bk, .inr (0, [.ref alt, .ref abd, .ref aeg, .ref abr, .ref ask, .ref ash, .ref ast, .int (nI sn), .int yr])), (alt, .inl (cI, 5, .inl lt)), (abd, .inl (cI, 5, .inl bd)), (aeg, .inl (cI, 5, .inl eg)), (abr, .inl (cI, 5, .inl br)), (ask, .inl (cI, 8, .inl sk)), (ash, .inl (cI, 8, .inl sh)), (ast, .inl (cZ, 8, .inl st))]) ⟨hx, hb, hml, hown, hts⟩ (c_X0_copyFrom l D cI cZ cA _ kb alt2 abd2 aeg2 abr2 ask2 ash2 ast2 sn2 yr2 lt2 bd2 eg2 br2 sk2 sh2 st2 bk alt abd aeg abr ask ash ast sn yr lt bd eg br sk sh st (by first | assumption | omega)) (cwV 1 hts gX5_image_X0_copyFrom rfl rfl rfl (by decide +kernel) ⟨Nat.le_of_ble_eq_true rfl, Nat.le_of_ble_eq_true rfl⟩) hE hP hD hS hA [10, 11, 12, 13, 14, 15, 16, 17, 2, 3, 4, 5, 6, 7, 8, 9] [0, 1] rfl rfl rfl (by decide) (by decide) (by decide) 0 0 rfl rfl rfl hl.1 rfl (Nat.le_of_ble_eq_true rfl) dX5_image_21 ⟨Nat.zero_le _, Nat.zero_le _⟩ (fun H locs hP hD hS => ?_)
    have hP : va_P D vwCl [(vd, .inr (5, [.ref pg, .ref co, .ref bk, .ref kb, .ref mt, .ref rn, .int im, .int tr])), (co, .inr (2, [.ref akd, .ref afa, .ref ahd, .int (nI K), .int (nI Hn)])), (kb, .inr (0, [.ref alt2, .ref abd2, .ref aeg2, .ref abr2, .ref ask2, .ref ash2, .ref ast2, .int (nI sn), .int yr])), (alt2, .inl (cI, 5, .inl lt)), (abd2, .inl (cI, 5, .inl bd)), (aeg2, .inl (cI, 5, .inl eg)), (abr2, .inl (cI, 5, .inl br)), (ask2, .inl (cI, 8, .inl sk)), (ash2, .inl (cI, 8, .inl sh)), (ast2, .inl (cZ, 8, .inl st)), (bk, .inr (0, [.ref alt, .ref abd, .ref aeg, .ref abr, .ref ask, .ref ash, .ref ast, .int (nI sn), .int yr])), (alt, .inl (cI, 5, .inl lt)), (abd, .inl (cI, 5, .inl bd)), (aeg, .inl (cI, 5, .inl eg)), (abr, .inl (cI, 5, .inl br)), (ask, .inl (cI, 8, .inl sk)), (ash, .inl (cI, 8, .inl sh)), (ast, .inl (cZ, 8, .inl st))] H := hP
    have hD : va_D A [(vd, .inr (5, [.ref pg, .ref co, .ref bk, .ref kb, .ref mt, .ref rn, .int im, .int tr])), (co, .inr (2, [.ref akd, .ref afa, .ref ahd, .int (nI K), .int (nI Hn)])), (kb, .inr (0, [.ref alt2, .ref abd2, .ref aeg2, .ref abr2, .ref ask2, .ref ash2, .ref ast2, .int (nI sn), .int yr])), (alt2, .inl (cI, 5, .inl lt)), (abd2, .inl (cI, 5, .inl bd)), (aeg2, .inl (cI, 5, .inl eg)), (abr2, .inl (cI, 5, .inl br)), (ask2, .inl (cI, 8, .inl sk)), (ash2, .inl (cI, 8, .inl sh)), (ast2, .inl (cZ, 8, .inl st)), (bk, .inr (0, [.ref alt, .ref abd, .ref aeg, .ref abr, .ref ask, .ref ash, .ref ast, .int (nI sn), .int yr])), (alt, .inl (cI, 5, .inl lt)), (abd, .inl (cI, 5, .inl bd)), (aeg, .inl (cI, 5, .inl eg)), (abr, .inl (cI, 5, .inl br)), (ask, .inl (cI, 8, .inl sk)), (ash, .inl (cI, 8, .inl sh)), (ast, .inl (cZ, 8, .inl st))] := hD
    refine lv_aload_n hx hb dX5_image_24 rfl (lv_at hl 0 rfl) ?_
    refine lv_iconst (v := 1) hx hb dX5_image_25 (by decide) ?_
    refine va_put (D := D) (ci := 5) (v := .int 1) (ty := .boolean) (C := RX5) (T := TX5) (N := 8) hx hb hts hinX5 tyX5 tyX5_ok nmX5 hown hE.1 hP hD hS 0 rfl rfl 6 (by decide) k_3 (fun _ h9 => h9) rfl (by decide +kernel) rfl rfl (Nat.le_of_ble_eq_true rfl) dX5_image_26 (fun H locs hP hD hS => ?_)
    have hP : va_P D vwCl [(vd, .inr (5, [.ref pg, .ref co, .ref bk, .ref kb, .ref mt, .ref rn, .int 1, .int tr])), (co, .inr (2, [.ref akd, .ref afa, .ref ahd, .int (nI K), .int (nI Hn)])), (kb, .inr (0, [.ref alt2, .ref abd2, .ref aeg2, .ref abr2, .ref ask2, .ref ash2, .ref ast2, .int (nI sn), .int yr])), (alt2, .inl (cI, 5, .inl lt)), (abd2, .inl (cI, 5, .inl bd)), (aeg2, .inl (cI, 5, .inl eg)), (abr2, .inl (cI, 5, .inl br)), (ask2, .inl (cI, 8, .inl sk)), (ash2, .inl (cI, 8, .inl sh)), (ast2, .inl (cZ, 8, .inl st)), (bk, .inr (0, [.ref alt, .ref abd, .ref aeg, .ref abr, .ref ask, .ref ash, .ref ast, .int (nI sn), .int yr])), (alt, .inl (cI, 5, .inl lt)), (abd, .inl (cI, 5, .inl bd)), (aeg, .inl (cI, 5, .inl eg)), (abr, .inl (cI, 5, .inl br)), (ask, .inl (cI, 8, .inl sk)), (ash, .inl (cI, 8, .inl sh)), (ast, .inl (cZ, 8, .inl st))] H := hP
    have hD : va_D A [(vd, .inr (5, [.ref pg, .ref co, .ref bk, .ref kb, .ref mt, .ref rn, .int 1, .int tr])), (co, .inr (2, [.ref akd, .ref afa, .ref ahd, .int (nI K), .int (nI Hn)])), (kb, .inr (0, [.ref alt2, .ref abd2, .ref aeg2, .ref abr2, .ref ask2, .ref ash2, .ref ast2, .int (nI sn), .int yr])), (alt2, .inl (cI, 5, .inl lt)), (abd2, .inl (cI, 5, .inl bd)), (aeg2, .inl (cI, 5, .inl eg)), (abr2, .inl (cI, 5, .inl br)), (ask2, .inl (cI, 8, .inl sk)), (ash2, .inl (cI, 8, .inl sh)), (ast2, .inl (cZ, 8, .inl st)), (bk, .inr (0, [.ref alt, .ref abd, .ref aeg, .ref abr, .ref ask, .ref ash, .ref ast, .int (nI sn), .int yr])), (alt, .inl (cI, 5, .inl lt)), (abd, .inl (cI, 5, .inl bd)), (aeg, .inl (cI, 5, .inl eg)), (abr, .inl (cI, 5, .inl br)), (ask, .inl (cI, 8, .inl sk)), (ash, .inl (cI, 8, .inl sh)), (ast, .inl (cZ, 8, .inl st))] := hD
    refine lv_aload_n hx hb dX5_image_29 rfl (lv_at hl 0 rfl) ?_
    refine va_get (D := D) (ci := 5) (v := .ref bk) (C := RX5) (T := TX5) (N := 8) hx hb hts hinX5 hown hE.1 hP 0 rfl rfl 2 (by decide) k_2 (fun _ h9 => h9) rfl dX5_image_30 ?_
    refine va_get (D := D) (ci := 0) (v := .int yr) (C := RX0) (T := TX0) (N := 9) hx hb hts hinX0 hown hE.1 hP 10 rfl rfl 8 (by decide) k_4 (fun _ h9 => h9) rfl dX5_image_33 ?_
    have hP9 := hP.sub (ws' := [(vd, .inr (5, [.ref pg, .ref co, .ref bk, .ref kb, .ref mt, .ref rn, .int 1, .int tr])), (co, .inr (2, [.ref akd, .ref afa, .ref ahd, .int (nI K), .int (nI Hn)])), (bk, .inr (0, [.ref alt, .ref abd, .ref aeg, .ref abr, .ref ask, .ref ash, .ref ast, .int (nI sn), .int yr])), (alt, .inl (cI, 5, .inl lt)), (abd, .inl (cI, 5, .inl bd)), (aeg, .inl (cI, 5, .inl eg)), (abr, .inl (cI, 5, .inl br)), (ask, .inl (cI, 8, .inl sk)), (ash, .inl (cI, 8, .inl sh)), (ast, .inl (cZ, 8, .inl st)), (kb, .inr (0, [.ref alt2, .ref abd2, .ref aeg2, .ref abr2, .ref ask2, .ref ash2, .ref ast2, .int (nI sn), .int yr])), (alt2, .inl (cI, 5, .inl lt)), (abd2, .inl (cI, 5, .inl bd)), (aeg2, .inl (cI, 5, .inl eg)), (abr2, .inl (cI, 5, .inl br)), (ask2, .inl (cI, 8, .inl sk)), (ash2, .inl (cI, 8, .inl sh)), (ast2, .inl (cZ, 8, .inl st))]) [0, 1, 10, 11, 12, 13, 14, 15, 16, 17, 2, 3, 4, 5, 6, 7, 8, 9] rfl
    have hD9 := hD.sub (ws' := [(vd, .inr (5, [.ref pg, .ref co, .ref bk, .ref kb, .ref mt, .ref rn, .int 1, .int tr])), (co, .inr (2, [.ref akd, .ref afa, .ref ahd, .int (nI K), .int (nI Hn)])), (bk, .inr (0, [.ref alt, .ref abd, .ref aeg, .ref abr, .ref ask, .ref ash, .ref ast, .int (nI sn), .int yr])), (alt, .inl (cI, 5, .inl lt)), (abd, .inl (cI, 5, .inl bd)), (aeg, .inl (cI, 5, .inl eg)), (abr, .inl (cI, 5, .inl br)), (ask, .inl (cI, 8, .inl sk)), (ash, .inl (cI, 8, .inl sh)), (ast, .inl (cZ, 8, .inl st)), (kb, .inr (0, [.ref alt2, .ref abd2, .ref aeg2, .ref abr2, .ref ask2, .ref ash2, .ref ast2, .int (nI sn), .int yr])), (alt2, .inl (cI, 5, .inl lt)), (abd2, .inl (cI, 5, .inl bd)), (aeg2, .inl (cI, 5, .inl eg)), (abr2, .inl (cI, 5, .inl br)), (ask2, .inl (cI, 8, .inl sk)), (ash2, .inl (cI, 8, .inl sh)), (ast2, .inl (cZ, 8, .inl st))]) [0, 1, 10, 11, 12, 13, 14, 15, 16, 17, 2, 3, 4, 5, 6, 7, 8, 9] (by decide) rfl
    exact W.iret (v := yr) hx hb hr (fun t ht hW => ⟨⟨yr, (), rfl, rfl, by rw [ht]; exact hP9, hD9⟩, hS.F ht⟩) hS.2.2 dX5_image_36
  · have c_7 := zb_0 c_7
    exact absurd hK0 c_7

set_option maxHeartbeats 1000000 in
set_option maxRecDepth 100000 in
theorem c_X5_image0 (l : Launch) (D : va_G) (cI cZ cA : ClassId) (sz : Nat) (vd : Nat) (pg : Nat) (co : Nat) (bk : Nat) (kb : Nat) (mt : Nat) (rn : Nat) (im : Int32) (tr : Int32) (akd : Nat) (afa : Nat) (ahd : Nat) (K : Nat) (Hn : Nat) (alt : Nat) (abd : Nat) (aeg : Nat) (abr : Nat) (ask : Nat) (ash : Nat) (ast : Nat) (sn : Nat) (yr : Int32) (lt : Nat → Int32) (bd : Nat → Int32) (eg : Nat → Int32) (br : Nat → Int32) (sk : Nat → Int32) (sh : Nat → Int32) (st : Nat → Int32) (alt2 : Nat) (abd2 : Nat) (aeg2 : Nat) (abr2 : Nat) (ask2 : Nat) (ash2 : Nat) (ast2 : Nat) (sn2 : Nat) (yr2 : Int32) (lt2 : Nat → Int32) (bd2 : Nat → Int32) (eg2 : Nat → Int32) (br2 : Nat → Int32) (sk2 : Nat → Int32) (sh2 : Nat → Int32) (st2 : Nat → Int32) (hK : K ≤ 5) (hK0 : ¬ 0 < K) : Met l yX5_image wsX5_image (zr 2) (va_Pc [.ref vd] (zPw D cI cZ cA [(vd, .inr (5, [.ref pg, .ref co, .ref bk, .ref kb, .ref mt, .ref rn, .int im, .int tr])), (co, .inr (2, [.ref akd, .ref afa, .ref ahd, .int (nI K), .int (nI Hn)]))] sz)) (va_Qi (fun (r : Int32) (_ : Unit) => r = (-103)) (zB D [(vd, .inr (5, [.ref pg, .ref co, .ref bk, .ref kb, .ref mt, .ref rn, .int im, .int tr])), (co, .inr (2, [.ref akd, .ref afa, .ref ahd, .int (nI K), .int (nI Hn)]))] (va_A [(vd, .inr (5, [.ref pg, .ref co, .ref bk, .ref kb, .ref mt, .ref rn, .int im, .int tr])), (co, .inr (2, [.ref akd, .ref afa, .ref ahd, .int (nI K), .int (nI Hn)]))] sz)) (va_A [(vd, .inr (5, [.ref pg, .ref co, .ref bk, .ref kb, .ref mt, .ref rn, .int im, .int tr])), (co, .inr (2, [.ref akd, .ref afa, .ref ahd, .int (nI K), .int (nI Hn)]))] sz)) 0 0 (va_A [(vd, .inr (5, [.ref pg, .ref co, .ref bk, .ref kb, .ref mt, .ref rn, .int im, .int tr])), (co, .inr (2, [.ref akd, .ref afa, .ref ahd, .int (nI K), .int (nI Hn)]))] sz) := by
  refine Met.ofW (cc := cX5_image) (maxL := 1) (ret := (some .int)) (by decide) rfl ?_
  intro p e s m args below meth c s₁ B hml hv
  obtain ⟨rfl, hsz, hP, hD0, hE⟩ := hv
  have hx := B.exec
  have hb := B.bytes
  have hr := B.returns
  have hts := atoms_spec (ws := wsX5_image) B.pre
  have hown : s.vm.findClass RX5 = some m.cls := findClass_of_methodNamed B.named
  have hlocks := B.notSynchronized
  subst hsz
  have hD := hD0.self (sz := s.heap.size)
  generalize hAe : va_A [(vd, .inr (5, [.ref pg, .ref co, .ref bk, .ref kb, .ref mt, .ref rn, .int im, .int tr])), (co, .inr (2, [.ref akd, .ref afa, .ref ahd, .int (nI K), .int (nI Hn)]))] s.heap.size = A at hD ⊢
  have hA : ∀ q : Nat, s.heap.size ≤ q → A q := fun q h => by rw [← hAe]; exact Or.inr h
  have hS : va_S A s.heap s.heap [] := va_S.rf
  have hP : va_P D vwCl [(vd, .inr (5, [.ref pg, .ref co, .ref bk, .ref kb, .ref mt, .ref rn, .int im, .int tr])), (co, .inr (2, [.ref akd, .ref afa, .ref ahd, .int (nI K), .int (nI Hn)]))] s.heap := hP
  have hD : va_D A [(vd, .inr (5, [.ref pg, .ref co, .ref bk, .ref kb, .ref mt, .ref rn, .int im, .int tr])), (co, .inr (2, [.ref akd, .ref afa, .ref ahd, .int (nI K), .int (nI Hn)]))] := hD
  have hl := lv_entry ([.ref vd]) (n := 1) (Nat.le_of_ble_eq_true rfl)
  rw [lg_entry_eq]
  generalize (lg_sl ([.ref vd]) ++ List.replicate (1 - (lg_sl ([.ref vd])).length) Slot.unset).toArray = ls at hl ⊢
  have hl : lv_has ls 1 [(0, .ref vd)] := hl
  have hinX5 : ∀ w ∈ wsX50, w ∈ wsX5_image := fun w h => List.mem_cons_of_mem _ (List.mem_append_left _ (List.mem_append_left _ (List.mem_append_right _ h)))
  have k_0 := hts (.fieldLink RX5 19 "VowDoves" "cote" "LVowDoves$Cote;") (by decide +kernel)
  refine lv_aload_n hx hb dX5_image_0 rfl (lv_at hl 0 rfl) ?_
  refine va_get (D := D) (ci := 5) (v := .ref co) (C := RX5) (T := TX5) (N := 8) hx hb hts hinX5 hown hE.1 hP 0 rfl rfl 1 (by decide) k_0 (fun _ h9 => h9) rfl dX5_image_1 ?_
  refine z_roVi (As := []) (rest := []) ⟨hx, hb, hml, hown, hts⟩ (c_X2_stands l D cI cZ cA co akd afa ahd K Hn (by first | assumption | omega)) (cwV 0 hts gX5_image_X2_stands rfl rfl rfl (by decide +kernel) ⟨Nat.le_of_ble_eq_true rfl, Nat.le_of_ble_eq_true rfl⟩) hE hP [1] rfl 0 2 rfl rfl rfl hl.1 rfl (Nat.le_of_ble_eq_true rfl) dX5_image_4 ⟨Nat.zero_le _, Nat.zero_le _⟩ ?_
  refine lv_if_ne (tgt := 13) hx hb dX5_image_7 (by decide) (fun c_7 => ?_) (fun c_7 => ?_)
  · have c_7 := zb_1 c_7
    exact absurd c_7 hK0
  · have c_7 := zb_0 c_7
    refine lv_bipush (v := (-103)) hx hb dX5_image_10 (by decide) ?_
    have hP9 := hP.sub (ws' := [(vd, .inr (5, [.ref pg, .ref co, .ref bk, .ref kb, .ref mt, .ref rn, .int im, .int tr])), (co, .inr (2, [.ref akd, .ref afa, .ref ahd, .int (nI K), .int (nI Hn)]))]) [0, 1] rfl
    have hD9 := hD.sub (ws' := [(vd, .inr (5, [.ref pg, .ref co, .ref bk, .ref kb, .ref mt, .ref rn, .int im, .int tr])), (co, .inr (2, [.ref akd, .ref afa, .ref ahd, .int (nI K), .int (nI Hn)]))]) [0, 1] (by decide) rfl
    exact W.iret (v := (-103)) hx hb hr (fun t ht hW => ⟨⟨(-103), (), rfl, rfl, by rw [ht]; exact hP9, hD9⟩, hS.F ht⟩) hS.2.2 dX5_image_12

set_option maxHeartbeats 1000000 in
set_option maxRecDepth 100000 in
theorem c_X5_restore (l : Launch) (D : va_G) (cI cZ cA : ClassId) (sz : Nat) (vd : Nat) (pg : Nat) (co : Nat) (bk : Nat) (kb : Nat) (mt : Nat) (rn : Nat) (im : Int32) (tr : Int32) (akd : Nat) (afa : Nat) (ahd : Nat) (K : Nat) (Hn : Nat) (alt : Nat) (abd : Nat) (aeg : Nat) (abr : Nat) (ask : Nat) (ash : Nat) (ast : Nat) (sn : Nat) (yr : Int32) (lt : Nat → Int32) (bd : Nat → Int32) (eg : Nat → Int32) (br : Nat → Int32) (sk : Nat → Int32) (sh : Nat → Int32) (st : Nat → Int32) (alt2 : Nat) (abd2 : Nat) (aeg2 : Nat) (abr2 : Nat) (ask2 : Nat) (ash2 : Nat) (ast2 : Nat) (sn2 : Nat) (yr2 : Int32) (lt2 : Nat → Int32) (bd2 : Nat → Int32) (eg2 : Nat → Int32) (br2 : Nat → Int32) (sk2 : Nat → Int32) (sh2 : Nat → Int32) (st2 : Nat → Int32) (him : ¬ im = 0) (hst : stOk st2) : Met l yX5_restore wsX5_restore (zr 2) (va_Pc [.ref vd] (zPw D cI cZ cA [(vd, .inr (5, [.ref pg, .ref co, .ref bk, .ref kb, .ref mt, .ref rn, .int im, .int tr])), (bk, .inr (0, [.ref alt, .ref abd, .ref aeg, .ref abr, .ref ask, .ref ash, .ref ast, .int (nI sn), .int yr])), (alt, .inl (cI, 5, .inl lt)), (abd, .inl (cI, 5, .inl bd)), (aeg, .inl (cI, 5, .inl eg)), (abr, .inl (cI, 5, .inl br)), (ask, .inl (cI, 8, .inl sk)), (ash, .inl (cI, 8, .inl sh)), (ast, .inl (cZ, 8, .inl st)), (kb, .inr (0, [.ref alt2, .ref abd2, .ref aeg2, .ref abr2, .ref ask2, .ref ash2, .ref ast2, .int (nI sn2), .int yr2])), (alt2, .inl (cI, 5, .inl lt2)), (abd2, .inl (cI, 5, .inl bd2)), (aeg2, .inl (cI, 5, .inl eg2)), (abr2, .inl (cI, 5, .inl br2)), (ask2, .inl (cI, 8, .inl sk2)), (ash2, .inl (cI, 8, .inl sh2)), (ast2, .inl (cZ, 8, .inl st2))] sz)) (va_Qi (fun (r : Int32) (_ : Unit) => r = yr2) (zB D [(vd, .inr (5, [.ref pg, .ref co, .ref bk, .ref kb, .ref mt, .ref rn, .int im, .int tr])), (bk, .inr (0, [.ref alt, .ref abd, .ref aeg, .ref abr, .ref ask, .ref ash, .ref ast, .int (nI sn2), .int yr2])), (alt, .inl (cI, 5, .inl lt2)), (abd, .inl (cI, 5, .inl bd2)), (aeg, .inl (cI, 5, .inl eg2)), (abr, .inl (cI, 5, .inl br2)), (ask, .inl (cI, 8, .inl sk2)), (ash, .inl (cI, 8, .inl sh2)), (ast, .inl (cZ, 8, .inl st2)), (kb, .inr (0, [.ref alt2, .ref abd2, .ref aeg2, .ref abr2, .ref ask2, .ref ash2, .ref ast2, .int (nI sn2), .int yr2])), (alt2, .inl (cI, 5, .inl lt2)), (abd2, .inl (cI, 5, .inl bd2)), (aeg2, .inl (cI, 5, .inl eg2)), (abr2, .inl (cI, 5, .inl br2)), (ask2, .inl (cI, 8, .inl sk2)), (ash2, .inl (cI, 8, .inl sh2)), (ast2, .inl (cZ, 8, .inl st2))] (va_A [(vd, .inr (5, [.ref pg, .ref co, .ref bk, .ref kb, .ref mt, .ref rn, .int im, .int tr])), (bk, .inr (0, [.ref alt, .ref abd, .ref aeg, .ref abr, .ref ask, .ref ash, .ref ast, .int (nI sn), .int yr])), (alt, .inl (cI, 5, .inl lt)), (abd, .inl (cI, 5, .inl bd)), (aeg, .inl (cI, 5, .inl eg)), (abr, .inl (cI, 5, .inl br)), (ask, .inl (cI, 8, .inl sk)), (ash, .inl (cI, 8, .inl sh)), (ast, .inl (cZ, 8, .inl st)), (kb, .inr (0, [.ref alt2, .ref abd2, .ref aeg2, .ref abr2, .ref ask2, .ref ash2, .ref ast2, .int (nI sn2), .int yr2])), (alt2, .inl (cI, 5, .inl lt2)), (abd2, .inl (cI, 5, .inl bd2)), (aeg2, .inl (cI, 5, .inl eg2)), (abr2, .inl (cI, 5, .inl br2)), (ask2, .inl (cI, 8, .inl sk2)), (ash2, .inl (cI, 8, .inl sh2)), (ast2, .inl (cZ, 8, .inl st2))] sz)) (va_A [(vd, .inr (5, [.ref pg, .ref co, .ref bk, .ref kb, .ref mt, .ref rn, .int im, .int tr])), (bk, .inr (0, [.ref alt, .ref abd, .ref aeg, .ref abr, .ref ask, .ref ash, .ref ast, .int (nI sn), .int yr])), (alt, .inl (cI, 5, .inl lt)), (abd, .inl (cI, 5, .inl bd)), (aeg, .inl (cI, 5, .inl eg)), (abr, .inl (cI, 5, .inl br)), (ask, .inl (cI, 8, .inl sk)), (ash, .inl (cI, 8, .inl sh)), (ast, .inl (cZ, 8, .inl st)), (kb, .inr (0, [.ref alt2, .ref abd2, .ref aeg2, .ref abr2, .ref ask2, .ref ash2, .ref ast2, .int (nI sn2), .int yr2])), (alt2, .inl (cI, 5, .inl lt2)), (abd2, .inl (cI, 5, .inl bd2)), (aeg2, .inl (cI, 5, .inl eg2)), (abr2, .inl (cI, 5, .inl br2)), (ask2, .inl (cI, 8, .inl sk2)), (ash2, .inl (cI, 8, .inl sh2)), (ast2, .inl (cZ, 8, .inl st2))] sz)) 0 0 (va_A [(vd, .inr (5, [.ref pg, .ref co, .ref bk, .ref kb, .ref mt, .ref rn, .int im, .int tr])), (bk, .inr (0, [.ref alt, .ref abd, .ref aeg, .ref abr, .ref ask, .ref ash, .ref ast, .int (nI sn), .int yr])), (alt, .inl (cI, 5, .inl lt)), (abd, .inl (cI, 5, .inl bd)), (aeg, .inl (cI, 5, .inl eg)), (abr, .inl (cI, 5, .inl br)), (ask, .inl (cI, 8, .inl sk)), (ash, .inl (cI, 8, .inl sh)), (ast, .inl (cZ, 8, .inl st)), (kb, .inr (0, [.ref alt2, .ref abd2, .ref aeg2, .ref abr2, .ref ask2, .ref ash2, .ref ast2, .int (nI sn2), .int yr2])), (alt2, .inl (cI, 5, .inl lt2)), (abd2, .inl (cI, 5, .inl bd2)), (aeg2, .inl (cI, 5, .inl eg2)), (abr2, .inl (cI, 5, .inl br2)), (ask2, .inl (cI, 8, .inl sk2)), (ash2, .inl (cI, 8, .inl sh2)), (ast2, .inl (cZ, 8, .inl st2))] sz) := by
  refine Met.ofW (cc := cX5_restore) (maxL := 1) (ret := (some .int)) (by decide) rfl ?_
  intro p e s m args below meth c s₁ B hml hv
  obtain ⟨rfl, hsz, hP, hD0, hE⟩ := hv
  have hx := B.exec
  have hb := B.bytes
  have hr := B.returns
  have hts := atoms_spec (ws := wsX5_restore) B.pre
  have hown : s.vm.findClass RX5 = some m.cls := findClass_of_methodNamed B.named
  have hlocks := B.notSynchronized
  subst hsz
  have hD := hD0.self (sz := s.heap.size)
  generalize hAe : va_A [(vd, .inr (5, [.ref pg, .ref co, .ref bk, .ref kb, .ref mt, .ref rn, .int im, .int tr])), (bk, .inr (0, [.ref alt, .ref abd, .ref aeg, .ref abr, .ref ask, .ref ash, .ref ast, .int (nI sn), .int yr])), (alt, .inl (cI, 5, .inl lt)), (abd, .inl (cI, 5, .inl bd)), (aeg, .inl (cI, 5, .inl eg)), (abr, .inl (cI, 5, .inl br)), (ask, .inl (cI, 8, .inl sk)), (ash, .inl (cI, 8, .inl sh)), (ast, .inl (cZ, 8, .inl st)), (kb, .inr (0, [.ref alt2, .ref abd2, .ref aeg2, .ref abr2, .ref ask2, .ref ash2, .ref ast2, .int (nI sn2), .int yr2])), (alt2, .inl (cI, 5, .inl lt2)), (abd2, .inl (cI, 5, .inl bd2)), (aeg2, .inl (cI, 5, .inl eg2)), (abr2, .inl (cI, 5, .inl br2)), (ask2, .inl (cI, 8, .inl sk2)), (ash2, .inl (cI, 8, .inl sh2)), (ast2, .inl (cZ, 8, .inl st2))] s.heap.size = A at hD ⊢
  have hA : ∀ q : Nat, s.heap.size ≤ q → A q := fun q h => by rw [← hAe]; exact Or.inr h
  have hS : va_S A s.heap s.heap [] := va_S.rf
  have hP : va_P D vwCl [(vd, .inr (5, [.ref pg, .ref co, .ref bk, .ref kb, .ref mt, .ref rn, .int im, .int tr])), (bk, .inr (0, [.ref alt, .ref abd, .ref aeg, .ref abr, .ref ask, .ref ash, .ref ast, .int (nI sn), .int yr])), (alt, .inl (cI, 5, .inl lt)), (abd, .inl (cI, 5, .inl bd)), (aeg, .inl (cI, 5, .inl eg)), (abr, .inl (cI, 5, .inl br)), (ask, .inl (cI, 8, .inl sk)), (ash, .inl (cI, 8, .inl sh)), (ast, .inl (cZ, 8, .inl st)), (kb, .inr (0, [.ref alt2, .ref abd2, .ref aeg2, .ref abr2, .ref ask2, .ref ash2, .ref ast2, .int (nI sn2), .int yr2])), (alt2, .inl (cI, 5, .inl lt2)), (abd2, .inl (cI, 5, .inl bd2)), (aeg2, .inl (cI, 5, .inl eg2)), (abr2, .inl (cI, 5, .inl br2)), (ask2, .inl (cI, 8, .inl sk2)), (ash2, .inl (cI, 8, .inl sh2)), (ast2, .inl (cZ, 8, .inl st2))] s.heap := hP
  have hD : va_D A [(vd, .inr (5, [.ref pg, .ref co, .ref bk, .ref kb, .ref mt, .ref rn, .int im, .int tr])), (bk, .inr (0, [.ref alt, .ref abd, .ref aeg, .ref abr, .ref ask, .ref ash, .ref ast, .int (nI sn), .int yr])), (alt, .inl (cI, 5, .inl lt)), (abd, .inl (cI, 5, .inl bd)), (aeg, .inl (cI, 5, .inl eg)), (abr, .inl (cI, 5, .inl br)), (ask, .inl (cI, 8, .inl sk)), (ash, .inl (cI, 8, .inl sh)), (ast, .inl (cZ, 8, .inl st)), (kb, .inr (0, [.ref alt2, .ref abd2, .ref aeg2, .ref abr2, .ref ask2, .ref ash2, .ref ast2, .int (nI sn2), .int yr2])), (alt2, .inl (cI, 5, .inl lt2)), (abd2, .inl (cI, 5, .inl bd2)), (aeg2, .inl (cI, 5, .inl eg2)), (abr2, .inl (cI, 5, .inl br2)), (ask2, .inl (cI, 8, .inl sk2)), (ash2, .inl (cI, 8, .inl sh2)), (ast2, .inl (cZ, 8, .inl st2))] := hD
  have hl := lv_entry ([.ref vd]) (n := 1) (Nat.le_of_ble_eq_true rfl)
  rw [lg_entry_eq]
  generalize (lg_sl ([.ref vd]) ++ List.replicate (1 - (lg_sl ([.ref vd])).length) Slot.unset).toArray = ls at hl ⊢
  have hl : lv_has ls 1 [(0, .ref vd)] := hl
  have hinX0 : ∀ w ∈ wsX00, w ∈ wsX5_restore := fun w h => List.mem_cons_of_mem _ (List.mem_append_right _ h)
  have hinX5 : ∀ w ∈ wsX50, w ∈ wsX5_restore := fun w h => List.mem_cons_of_mem _ (List.mem_append_left _ (List.mem_append_right _ h))
  have k_0 := hts (.fieldLink RX5 47 "VowDoves" "isImageKept" "Z") (by decide +kernel)
  have k_1 := hts (.fieldLink RX5 26 "VowDoves" "book" "LVowDoves$Book;") (by decide +kernel)
  have k_2 := hts (.fieldLink RX5 30 "VowDoves" "keptBook" "LVowDoves$Book;") (by decide +kernel)
  have k_3 := hts (.fieldLink RX5 144 "VowDoves$Book" "years" "I") (by decide +kernel)
  refine lv_aload_n hx hb dX5_restore_0 rfl (lv_at hl 0 rfl) ?_
  refine va_get (D := D) (ci := 5) (v := .int im) (C := RX5) (T := TX5) (N := 8) hx hb hts hinX5 hown hE.1 hP 0 rfl rfl 6 (by decide) k_0 (fun _ h9 => h9) rfl dX5_restore_1 ?_
  refine lv_if_ne (tgt := 10) hx hb dX5_restore_4 (by decide) (fun c_4 => ?_) (fun c_4 => ?_)
  · refine lv_aload_n hx hb dX5_restore_10 rfl (lv_at hl 0 rfl) ?_
    refine va_get (D := D) (ci := 5) (v := .ref bk) (C := RX5) (T := TX5) (N := 8) hx hb hts hinX5 hown hE.1 hP 0 rfl rfl 2 (by decide) k_1 (fun _ h9 => h9) rfl dX5_restore_11 ?_
    refine lv_aload_n hx hb dX5_restore_14 rfl (lv_at hl 0 rfl) ?_
    refine va_get (D := D) (ci := 5) (v := .ref kb) (C := RX5) (T := TX5) (N := 8) hx hb hts hinX5 hown hE.1 hP 0 rfl rfl 3 (by decide) k_2 (fun _ h9 => h9) rfl dX5_restore_15 ?_
    refine z_rwVv (As := [.ref kb]) (rest := []) (wr := [(vd, .inr (5, [.ref pg, .ref co, .ref bk, .ref kb, .ref mt, .ref rn, .int im, .int tr]))]) (w1 := [(bk, .inr (0, [.ref alt, .ref abd, .ref aeg, .ref abr, .ref ask, .ref ash, .ref ast, .int (nI sn2), .int yr2])), (alt, .inl (cI, 5, .inl lt2)), (abd, .inl (cI, 5, .inl bd2)), (aeg, .inl (cI, 5, .inl eg2)), (abr, .inl (cI, 5, .inl br2)), (ask, .inl (cI, 8, .inl sk2)), (ash, .inl (cI, 8, .inl sh2)), (ast, .inl (cZ, 8, .inl st2)), (kb, .inr (0, [.ref alt2, .ref abd2, .ref aeg2, .ref abr2, .ref ask2, .ref ash2, .ref ast2, .int (nI sn2), .int yr2])), (alt2, .inl (cI, 5, .inl lt2)), (abd2, .inl (cI, 5, .inl bd2)), (aeg2, .inl (cI, 5, .inl eg2)), (abr2, .inl (cI, 5, .inl br2)), (ask2, .inl (cI, 8, .inl sk2)), (ash2, .inl (cI, 8, .inl sh2)), (ast2, .inl (cZ, 8, .inl st2))]) ⟨hx, hb, hml, hown, hts⟩ (c_X0_copyFrom l D cI cZ cA _ bk alt abd aeg abr ask ash ast sn yr lt bd eg br sk sh st kb alt2 abd2 aeg2 abr2 ask2 ash2 ast2 sn2 yr2 lt2 bd2 eg2 br2 sk2 sh2 st2 (by first | assumption | omega)) (cwV 1 hts gX5_restore_X0_copyFrom rfl rfl rfl (by decide +kernel) ⟨Nat.le_of_ble_eq_true rfl, Nat.le_of_ble_eq_true rfl⟩) hE hP hD hS hA [1, 2, 3, 4, 5, 6, 7, 8, 9, 10, 11, 12, 13, 14, 15, 16] [0] rfl rfl rfl (by decide) (by decide) (by decide) 0 0 rfl rfl rfl hl.1 rfl (Nat.le_of_ble_eq_true rfl) dX5_restore_18 ⟨Nat.zero_le _, Nat.zero_le _⟩ (fun H locs hP hD hS => ?_)
    have hP : va_P D vwCl [(vd, .inr (5, [.ref pg, .ref co, .ref bk, .ref kb, .ref mt, .ref rn, .int im, .int tr])), (bk, .inr (0, [.ref alt, .ref abd, .ref aeg, .ref abr, .ref ask, .ref ash, .ref ast, .int (nI sn2), .int yr2])), (alt, .inl (cI, 5, .inl lt2)), (abd, .inl (cI, 5, .inl bd2)), (aeg, .inl (cI, 5, .inl eg2)), (abr, .inl (cI, 5, .inl br2)), (ask, .inl (cI, 8, .inl sk2)), (ash, .inl (cI, 8, .inl sh2)), (ast, .inl (cZ, 8, .inl st2)), (kb, .inr (0, [.ref alt2, .ref abd2, .ref aeg2, .ref abr2, .ref ask2, .ref ash2, .ref ast2, .int (nI sn2), .int yr2])), (alt2, .inl (cI, 5, .inl lt2)), (abd2, .inl (cI, 5, .inl bd2)), (aeg2, .inl (cI, 5, .inl eg2)), (abr2, .inl (cI, 5, .inl br2)), (ask2, .inl (cI, 8, .inl sk2)), (ash2, .inl (cI, 8, .inl sh2)), (ast2, .inl (cZ, 8, .inl st2))] H := hP
    have hD : va_D A [(vd, .inr (5, [.ref pg, .ref co, .ref bk, .ref kb, .ref mt, .ref rn, .int im, .int tr])), (bk, .inr (0, [.ref alt, .ref abd, .ref aeg, .ref abr, .ref ask, .ref ash, .ref ast, .int (nI sn2), .int yr2])), (alt, .inl (cI, 5, .inl lt2)), (abd, .inl (cI, 5, .inl bd2)), (aeg, .inl (cI, 5, .inl eg2)), (abr, .inl (cI, 5, .inl br2)), (ask, .inl (cI, 8, .inl sk2)), (ash, .inl (cI, 8, .inl sh2)), (ast, .inl (cZ, 8, .inl st2)), (kb, .inr (0, [.ref alt2, .ref abd2, .ref aeg2, .ref abr2, .ref ask2, .ref ash2, .ref ast2, .int (nI sn2), .int yr2])), (alt2, .inl (cI, 5, .inl lt2)), (abd2, .inl (cI, 5, .inl bd2)), (aeg2, .inl (cI, 5, .inl eg2)), (abr2, .inl (cI, 5, .inl br2)), (ask2, .inl (cI, 8, .inl sk2)), (ash2, .inl (cI, 8, .inl sh2)), (ast2, .inl (cZ, 8, .inl st2))] := hD
    refine lv_aload_n hx hb dX5_restore_21 rfl (lv_at hl 0 rfl) ?_
    refine va_get (D := D) (ci := 5) (v := .ref bk) (C := RX5) (T := TX5) (N := 8) hx hb hts hinX5 hown hE.1 hP 0 rfl rfl 2 (by decide) k_1 (fun _ h9 => h9) rfl dX5_restore_22 ?_
    refine va_get (D := D) (ci := 0) (v := .int yr2) (C := RX0) (T := TX0) (N := 9) hx hb hts hinX0 hown hE.1 hP 1 rfl rfl 8 (by decide) k_3 (fun _ h9 => h9) rfl dX5_restore_25 ?_
    have hP9 := hP.sub (ws' := [(vd, .inr (5, [.ref pg, .ref co, .ref bk, .ref kb, .ref mt, .ref rn, .int im, .int tr])), (bk, .inr (0, [.ref alt, .ref abd, .ref aeg, .ref abr, .ref ask, .ref ash, .ref ast, .int (nI sn2), .int yr2])), (alt, .inl (cI, 5, .inl lt2)), (abd, .inl (cI, 5, .inl bd2)), (aeg, .inl (cI, 5, .inl eg2)), (abr, .inl (cI, 5, .inl br2)), (ask, .inl (cI, 8, .inl sk2)), (ash, .inl (cI, 8, .inl sh2)), (ast, .inl (cZ, 8, .inl st2)), (kb, .inr (0, [.ref alt2, .ref abd2, .ref aeg2, .ref abr2, .ref ask2, .ref ash2, .ref ast2, .int (nI sn2), .int yr2])), (alt2, .inl (cI, 5, .inl lt2)), (abd2, .inl (cI, 5, .inl bd2)), (aeg2, .inl (cI, 5, .inl eg2)), (abr2, .inl (cI, 5, .inl br2)), (ask2, .inl (cI, 8, .inl sk2)), (ash2, .inl (cI, 8, .inl sh2)), (ast2, .inl (cZ, 8, .inl st2))]) [0, 1, 2, 3, 4, 5, 6, 7, 8, 9, 10, 11, 12, 13, 14, 15, 16] rfl
    have hD9 := hD.sub (ws' := [(vd, .inr (5, [.ref pg, .ref co, .ref bk, .ref kb, .ref mt, .ref rn, .int im, .int tr])), (bk, .inr (0, [.ref alt, .ref abd, .ref aeg, .ref abr, .ref ask, .ref ash, .ref ast, .int (nI sn2), .int yr2])), (alt, .inl (cI, 5, .inl lt2)), (abd, .inl (cI, 5, .inl bd2)), (aeg, .inl (cI, 5, .inl eg2)), (abr, .inl (cI, 5, .inl br2)), (ask, .inl (cI, 8, .inl sk2)), (ash, .inl (cI, 8, .inl sh2)), (ast, .inl (cZ, 8, .inl st2)), (kb, .inr (0, [.ref alt2, .ref abd2, .ref aeg2, .ref abr2, .ref ask2, .ref ash2, .ref ast2, .int (nI sn2), .int yr2])), (alt2, .inl (cI, 5, .inl lt2)), (abd2, .inl (cI, 5, .inl bd2)), (aeg2, .inl (cI, 5, .inl eg2)), (abr2, .inl (cI, 5, .inl br2)), (ask2, .inl (cI, 8, .inl sk2)), (ash2, .inl (cI, 8, .inl sh2)), (ast2, .inl (cZ, 8, .inl st2))]) [0, 1, 2, 3, 4, 5, 6, 7, 8, 9, 10, 11, 12, 13, 14, 15, 16] (by decide) rfl
    exact W.iret (v := yr2) hx hb hr (fun t ht hW => ⟨⟨yr2, (), rfl, rfl, by rw [ht]; exact hP9, hD9⟩, hS.F ht⟩) hS.2.2 dX5_restore_28
  · exact absurd c_4 him

set_option maxHeartbeats 1000000 in
set_option maxRecDepth 100000 in
theorem c_X5_restore0 (l : Launch) (D : va_G) (cI cZ cA : ClassId) (sz : Nat) (vd : Nat) (pg : Nat) (co : Nat) (bk : Nat) (kb : Nat) (mt : Nat) (rn : Nat) (im : Int32) (tr : Int32) (akd : Nat) (afa : Nat) (ahd : Nat) (K : Nat) (Hn : Nat) (alt : Nat) (abd : Nat) (aeg : Nat) (abr : Nat) (ask : Nat) (ash : Nat) (ast : Nat) (sn : Nat) (yr : Int32) (lt : Nat → Int32) (bd : Nat → Int32) (eg : Nat → Int32) (br : Nat → Int32) (sk : Nat → Int32) (sh : Nat → Int32) (st : Nat → Int32) (alt2 : Nat) (abd2 : Nat) (aeg2 : Nat) (abr2 : Nat) (ask2 : Nat) (ash2 : Nat) (ast2 : Nat) (sn2 : Nat) (yr2 : Int32) (lt2 : Nat → Int32) (bd2 : Nat → Int32) (eg2 : Nat → Int32) (br2 : Nat → Int32) (sk2 : Nat → Int32) (sh2 : Nat → Int32) (st2 : Nat → Int32) (him : im = 0) : Met l yX5_restore wsX5_restore (zr 2) (va_Pc [.ref vd] (zPw D cI cZ cA [(vd, .inr (5, [.ref pg, .ref co, .ref bk, .ref kb, .ref mt, .ref rn, .int im, .int tr]))] sz)) (va_Qi (fun (r : Int32) (_ : Unit) => r = (-103)) (zB D [(vd, .inr (5, [.ref pg, .ref co, .ref bk, .ref kb, .ref mt, .ref rn, .int im, .int tr]))] (va_A [(vd, .inr (5, [.ref pg, .ref co, .ref bk, .ref kb, .ref mt, .ref rn, .int im, .int tr]))] sz)) (va_A [(vd, .inr (5, [.ref pg, .ref co, .ref bk, .ref kb, .ref mt, .ref rn, .int im, .int tr]))] sz)) 0 0 (va_A [(vd, .inr (5, [.ref pg, .ref co, .ref bk, .ref kb, .ref mt, .ref rn, .int im, .int tr]))] sz) := by
  refine Met.ofW (cc := cX5_restore) (maxL := 1) (ret := (some .int)) (by decide) rfl ?_
  intro p e s m args below meth c s₁ B hml hv
  obtain ⟨rfl, hsz, hP, hD0, hE⟩ := hv
  have hx := B.exec
  have hb := B.bytes
  have hr := B.returns
  have hts := atoms_spec (ws := wsX5_restore) B.pre
  have hown : s.vm.findClass RX5 = some m.cls := findClass_of_methodNamed B.named
  have hlocks := B.notSynchronized
  subst hsz
  have hD := hD0.self (sz := s.heap.size)
  generalize hAe : va_A [(vd, .inr (5, [.ref pg, .ref co, .ref bk, .ref kb, .ref mt, .ref rn, .int im, .int tr]))] s.heap.size = A at hD ⊢
  have hA : ∀ q : Nat, s.heap.size ≤ q → A q := fun q h => by rw [← hAe]; exact Or.inr h
  have hS : va_S A s.heap s.heap [] := va_S.rf
  have hP : va_P D vwCl [(vd, .inr (5, [.ref pg, .ref co, .ref bk, .ref kb, .ref mt, .ref rn, .int im, .int tr]))] s.heap := hP
  have hD : va_D A [(vd, .inr (5, [.ref pg, .ref co, .ref bk, .ref kb, .ref mt, .ref rn, .int im, .int tr]))] := hD
  have hl := lv_entry ([.ref vd]) (n := 1) (Nat.le_of_ble_eq_true rfl)
  rw [lg_entry_eq]
  generalize (lg_sl ([.ref vd]) ++ List.replicate (1 - (lg_sl ([.ref vd])).length) Slot.unset).toArray = ls at hl ⊢
  have hl : lv_has ls 1 [(0, .ref vd)] := hl
  have hinX5 : ∀ w ∈ wsX50, w ∈ wsX5_restore := fun w h => List.mem_cons_of_mem _ (List.mem_append_left _ (List.mem_append_right _ h))
  have k_0 := hts (.fieldLink RX5 47 "VowDoves" "isImageKept" "Z") (by decide +kernel)
  refine lv_aload_n hx hb dX5_restore_0 rfl (lv_at hl 0 rfl) ?_
  refine va_get (D := D) (ci := 5) (v := .int im) (C := RX5) (T := TX5) (N := 8) hx hb hts hinX5 hown hE.1 hP 0 rfl rfl 6 (by decide) k_0 (fun _ h9 => h9) rfl dX5_restore_1 ?_
  refine lv_if_ne (tgt := 10) hx hb dX5_restore_4 (by decide) (fun c_4 => ?_) (fun c_4 => ?_)
  · exact absurd him c_4
  · refine lv_bipush (v := (-103)) hx hb dX5_restore_7 (by decide) ?_
    have hP9 := hP.sub (ws' := [(vd, .inr (5, [.ref pg, .ref co, .ref bk, .ref kb, .ref mt, .ref rn, .int im, .int tr]))]) [0] rfl
    have hD9 := hD.sub (ws' := [(vd, .inr (5, [.ref pg, .ref co, .ref bk, .ref kb, .ref mt, .ref rn, .int im, .int tr]))]) [0] (by decide) rfl
    exact W.iret (v := (-103)) hx hb hr (fun t ht hW => ⟨⟨(-103), (), rfl, rfl, by rw [ht]; exact hP9, hD9⟩, hS.F ht⟩) hS.2.2 dX5_restore_9

set_option maxHeartbeats 1000000 in
set_option maxRecDepth 100000 in
theorem c_X5_count (l : Launch) (D : va_G) (cI cZ cA : ClassId) (vd : Nat) (pg : Nat) (co : Nat) (bk : Nat) (kb : Nat) (mt : Nat) (rn : Nat) (im : Int32) (tr : Int32) (apl : Nat) (P : Nat) (vb : Int32) (akd : Nat) (afa : Nat) (ahd : Nat) (K : Nat) (Hn : Nat) (alt : Nat) (abd : Nat) (aeg : Nat) (abr : Nat) (ask : Nat) (ash : Nat) (ast : Nat) (sn : Nat) (yr : Int32) (bd : Nat → Int32) (eg : Nat → Int32) (br : Nat → Int32) (what : Int32)  : Met l yX5_count wsX5_count (zr 2) (va_Pc [.ref vd, .int what] (zPr D cI cZ cA [(vd, .inr (5, [.ref pg, .ref co, .ref bk, .ref kb, .ref mt, .ref rn, .int im, .int tr])), (pg, .inr (4, [.ref apl, .int (nI P), .int vb])), (co, .inr (2, [.ref akd, .ref afa, .ref ahd, .int (nI K), .int (nI Hn)])), (bk, .inr (0, [.ref alt, .ref abd, .ref aeg, .ref abr, .ref ask, .ref ash, .ref ast, .int (nI sn), .int yr])), (abd, .inl (cI, 5, .inl bd)), (aeg, .inl (cI, 5, .inl eg)), (abr, .inl (cI, 5, .inl br))])) (vp_Si (fun r => r = cntC bd eg br P K Hn sn yr tr what)) 0 0 (fun _ => False) := by
  refine Met.ofW (cc := cX5_count) (maxL := 2) (ret := (some .int)) (by decide) rfl ?_
  intro p e s m args below meth c s₁ B hml hv
  obtain ⟨rfl, hP, hE⟩ := hv
  have hx := B.exec
  have hb := B.bytes
  have hr := B.returns
  have hts := atoms_spec (ws := wsX5_count) B.pre
  have hown : s.vm.findClass RX5 = some m.cls := findClass_of_methodNamed B.named
  have hlocks := B.notSynchronized
  have hP : va_P D vwCl [(vd, .inr (5, [.ref pg, .ref co, .ref bk, .ref kb, .ref mt, .ref rn, .int im, .int tr])), (pg, .inr (4, [.ref apl, .int (nI P), .int vb])), (co, .inr (2, [.ref akd, .ref afa, .ref ahd, .int (nI K), .int (nI Hn)])), (bk, .inr (0, [.ref alt, .ref abd, .ref aeg, .ref abr, .ref ask, .ref ash, .ref ast, .int (nI sn), .int yr])), (abd, .inl (cI, 5, .inl bd)), (aeg, .inl (cI, 5, .inl eg)), (abr, .inl (cI, 5, .inl br))] s.heap := hP
  have hl := lv_entry ([.ref vd, .int what]) (n := 2) (Nat.le_of_ble_eq_true rfl)
  rw [lg_entry_eq]
  generalize (lg_sl ([.ref vd, .int what]) ++ List.replicate (2 - (lg_sl ([.ref vd, .int what])).length) Slot.unset).toArray = ls at hl ⊢
  have hl : lv_has ls 2 [(0, .ref vd), (1, .int what)] := hl
  have hinX0 : ∀ w ∈ wsX00, w ∈ wsX5_count := fun w h => List.mem_cons_of_mem _ (List.mem_append_left _ (List.mem_append_right _ h))
  have hinX2 : ∀ w ∈ wsX20, w ∈ wsX5_count := fun w h => List.mem_cons_of_mem _ (List.mem_append_left _ (List.mem_append_left _ (List.mem_append_right _ h)))
  have hinX4 : ∀ w ∈ wsX40, w ∈ wsX5_count := fun w h => List.mem_cons_of_mem _ (List.mem_append_right _ h)
  have hinX5 : ∀ w ∈ wsX50, w ∈ wsX5_count := fun w h => List.mem_cons_of_mem _ (List.mem_append_left _ (List.mem_append_left _ (List.mem_append_left _ (List.mem_append_right _ h))))
  have k_0 := hts (.fieldLink RX5 19 "VowDoves" "cote" "LVowDoves$Cote;") (by decide +kernel)
  have k_1 := hts (.fieldLink RX5 200 "VowDoves$Cote" "keepers" "I") (by decide +kernel)
  have k_2 := hts (.fieldLink RX5 77 "VowDoves$Cote" "holes" "I") (by decide +kernel)
  have k_3 := hts (.fieldLink RX5 26 "VowDoves" "book" "LVowDoves$Book;") (by decide +kernel)
  have k_4 := hts (.fieldLink RX5 126 "VowDoves$Book" "eggs" "[I") (by decide +kernel)
  have k_5 := hts (.fieldLink RX5 97 "VowDoves$Book" "broken" "[I") (by decide +kernel)
  have k_6 := hts (.fieldLink RX5 144 "VowDoves$Book" "years" "I") (by decide +kernel)
  have k_7 := hts (.fieldLink RX5 170 "VowDoves$Book" "seen" "I") (by decide +kernel)
  have k_8 := hts (.fieldLink RX5 10 "VowDoves" "page" "LVowDoves$Page;") (by decide +kernel)
  have k_9 := hts (.fieldLink RX5 55 "VowDoves$Page" "size" "I") (by decide +kernel)
  have k_10 := hts (.fieldLink RX5 51 "VowDoves" "towersRead" "I") (by decide +kernel)
  refine lv_iload_n hx hb dX5_count_0 rfl (lv_at hl 1 rfl) ?_
  by_cases c_1_0 : what = 0
  · refine lv_tableIn (tgt := 56) hx hb dX5_count_1 (by rw [c_1_0]; decide) (by rw [c_1_0]; decide) (by rw [c_1_0]; rfl) (by decide) ?_
    refine lv_aload_n hx hb dX5_count_56 rfl (lv_at hl 0 rfl) ?_
    refine va_get (D := D) (ci := 5) (v := .ref co) (C := RX5) (T := TX5) (N := 8) hx hb hts hinX5 hown hE.1 hP 0 rfl rfl 1 (by decide) k_0 (fun _ h9 => h9) rfl dX5_count_57 ?_
    refine va_get (D := D) (ci := 2) (v := .int (nI K)) (C := RX2) (T := TX2) (N := 5) hx hb hts hinX2 hown hE.1 hP 2 rfl rfl 3 (by decide) k_1 (fun _ h9 => h9) rfl dX5_count_60 ?_
    exact W.iret (v := nI K) hx hb hr (fun t ht hW => ⟨(nI K), rfl, (by rw [cntC]; simp [c_1_0]), ht⟩) (fun q h => by cases h) dX5_count_63
  by_cases c_1_1 : what = 1
  · refine lv_tableIn (tgt := 64) hx hb dX5_count_1 (by rw [c_1_1]; decide) (by rw [c_1_1]; decide) (by rw [c_1_1]; rfl) (by decide) ?_
    refine lv_aload_n hx hb dX5_count_64 rfl (lv_at hl 0 rfl) ?_
    refine va_get (D := D) (ci := 5) (v := .ref co) (C := RX5) (T := TX5) (N := 8) hx hb hts hinX5 hown hE.1 hP 0 rfl rfl 1 (by decide) k_0 (fun _ h9 => h9) rfl dX5_count_65 ?_
    refine va_get (D := D) (ci := 2) (v := .int (nI Hn)) (C := RX2) (T := TX2) (N := 5) hx hb hts hinX2 hown hE.1 hP 2 rfl rfl 4 (by decide) k_2 (fun _ h9 => h9) rfl dX5_count_68 ?_
    exact W.iret (v := nI Hn) hx hb hr (fun t ht hW => ⟨(nI Hn), rfl, (by rw [cntC]; simp [c_1_0, c_1_1]), ht⟩) (fun q h => by cases h) dX5_count_71
  by_cases c_1_2 : what = 2
  · refine lv_tableIn (tgt := 72) hx hb dX5_count_1 (by rw [c_1_2]; decide) (by rw [c_1_2]; decide) (by rw [c_1_2]; rfl) (by decide) ?_
    refine lv_aload_n hx hb dX5_count_72 rfl (lv_at hl 0 rfl) ?_
    refine va_get (D := D) (ci := 5) (v := .ref bk) (C := RX5) (T := TX5) (N := 8) hx hb hts hinX5 hown hE.1 hP 0 rfl rfl 2 (by decide) k_3 (fun _ h9 => h9) rfl dX5_count_73 ?_
    refine lv_iconst (v := 1) hx hb dX5_count_76 (by decide) ?_
    refine z_roVi (As := [.int 1]) (rest := []) ⟨hx, hb, hml, hown, hts⟩ (c_X0_holesWith l D cI cZ cA bk alt abd aeg abr ask ash ast sn yr bd 1 ) (cwV 1 hts gX5_count_X0_holesWith rfl rfl rfl (by decide +kernel) ⟨Nat.le_of_ble_eq_true rfl, Nat.le_of_ble_eq_true rfl⟩) hE hP [3, 4] rfl 0 0 rfl rfl rfl hl.1 rfl (Nat.le_of_ble_eq_true rfl) dX5_count_77 ⟨Nat.zero_le _, Nat.zero_le _⟩ ?_
    exact W.iret (v := (cntN bd 1 5)) hx hb hr (fun t ht hW => ⟨(cntN bd 1 5), rfl, (by rw [cntC]; simp [c_1_0, c_1_1, c_1_2]), ht⟩) (fun q h => by cases h) dX5_count_80
  by_cases c_1_3 : what = 3
  · refine lv_tableIn (tgt := 81) hx hb dX5_count_1 (by rw [c_1_3]; decide) (by rw [c_1_3]; decide) (by rw [c_1_3]; rfl) (by decide) ?_
    refine lv_aload_n hx hb dX5_count_81 rfl (lv_at hl 0 rfl) ?_
    refine va_get (D := D) (ci := 5) (v := .ref bk) (C := RX5) (T := TX5) (N := 8) hx hb hts hinX5 hown hE.1 hP 0 rfl rfl 2 (by decide) k_3 (fun _ h9 => h9) rfl dX5_count_82 ?_
    refine lv_iconst (v := 2) hx hb dX5_count_85 (by decide) ?_
    refine z_roVi (As := [.int 2]) (rest := []) ⟨hx, hb, hml, hown, hts⟩ (c_X0_holesWith l D cI cZ cA bk alt abd aeg abr ask ash ast sn yr bd 2 ) (cwV 1 hts gX5_count_X0_holesWith rfl rfl rfl (by decide +kernel) ⟨Nat.le_of_ble_eq_true rfl, Nat.le_of_ble_eq_true rfl⟩) hE hP [3, 4] rfl 0 0 rfl rfl rfl hl.1 rfl (Nat.le_of_ble_eq_true rfl) dX5_count_86 ⟨Nat.zero_le _, Nat.zero_le _⟩ ?_
    exact W.iret (v := (cntN bd 2 5)) hx hb hr (fun t ht hW => ⟨(cntN bd 2 5), rfl, (by rw [cntC]; simp [c_1_0, c_1_1, c_1_2, c_1_3]), ht⟩) (fun q h => by cases h) dX5_count_89
  by_cases c_1_4 : what = 4
  · refine lv_tableIn (tgt := 90) hx hb dX5_count_1 (by rw [c_1_4]; decide) (by rw [c_1_4]; decide) (by rw [c_1_4]; rfl) (by decide) ?_
    refine lv_aload_n hx hb dX5_count_90 rfl (lv_at hl 0 rfl) ?_
    refine va_get (D := D) (ci := 5) (v := .ref bk) (C := RX5) (T := TX5) (N := 8) hx hb hts hinX5 hown hE.1 hP 0 rfl rfl 2 (by decide) k_3 (fun _ h9 => h9) rfl dX5_count_91 ?_
    refine va_get (D := D) (ci := 0) (v := .ref aeg) (C := RX0) (T := TX0) (N := 9) hx hb hts hinX0 hown hE.1 hP 3 rfl rfl 2 (by decide) k_4 (fun _ h9 => h9) rfl dX5_count_94 ?_
    refine z_roSi (As := [.ref aeg]) (rest := []) ⟨hx, hb, hml, hown, hts⟩ (c_X5_sum l D cI cZ cA aeg eg ) (va_cwS 1 hts gX5_count_X5_sum rfl rfl rfl (by decide +kernel) ⟨Nat.le_of_ble_eq_true rfl, Nat.le_of_ble_eq_true rfl⟩) hE hP [5] rfl rfl hl.1 rfl (Nat.le_of_ble_eq_true rfl) dX5_count_97 ⟨Nat.zero_le _, Nat.zero_le _⟩ ?_
    exact W.iret (v := (sumN eg 5)) hx hb hr (fun t ht hW => ⟨(sumN eg 5), rfl, (by rw [cntC]; simp [c_1_0, c_1_1, c_1_2, c_1_3, c_1_4]), ht⟩) (fun q h => by cases h) dX5_count_100
  by_cases c_1_5 : what = 5
  · refine lv_tableIn (tgt := 101) hx hb dX5_count_1 (by rw [c_1_5]; decide) (by rw [c_1_5]; decide) (by rw [c_1_5]; rfl) (by decide) ?_
    refine lv_aload_n hx hb dX5_count_101 rfl (lv_at hl 0 rfl) ?_
    refine va_get (D := D) (ci := 5) (v := .ref bk) (C := RX5) (T := TX5) (N := 8) hx hb hts hinX5 hown hE.1 hP 0 rfl rfl 2 (by decide) k_3 (fun _ h9 => h9) rfl dX5_count_102 ?_
    refine va_get (D := D) (ci := 0) (v := .ref abr) (C := RX0) (T := TX0) (N := 9) hx hb hts hinX0 hown hE.1 hP 3 rfl rfl 3 (by decide) k_5 (fun _ h9 => h9) rfl dX5_count_105 ?_
    refine z_roSi (As := [.ref abr]) (rest := []) ⟨hx, hb, hml, hown, hts⟩ (c_X5_sum l D cI cZ cA abr br ) (va_cwS 1 hts gX5_count_X5_sum rfl rfl rfl (by decide +kernel) ⟨Nat.le_of_ble_eq_true rfl, Nat.le_of_ble_eq_true rfl⟩) hE hP [6] rfl rfl hl.1 rfl (Nat.le_of_ble_eq_true rfl) dX5_count_108 ⟨Nat.zero_le _, Nat.zero_le _⟩ ?_
    exact W.iret (v := (sumN br 5)) hx hb hr (fun t ht hW => ⟨(sumN br 5), rfl, (by rw [cntC]; simp [c_1_0, c_1_1, c_1_2, c_1_3, c_1_4, c_1_5]), ht⟩) (fun q h => by cases h) dX5_count_111
  by_cases c_1_6 : what = 6
  · refine lv_tableIn (tgt := 112) hx hb dX5_count_1 (by rw [c_1_6]; decide) (by rw [c_1_6]; decide) (by rw [c_1_6]; rfl) (by decide) ?_
    refine lv_aload_n hx hb dX5_count_112 rfl (lv_at hl 0 rfl) ?_
    refine va_get (D := D) (ci := 5) (v := .ref bk) (C := RX5) (T := TX5) (N := 8) hx hb hts hinX5 hown hE.1 hP 0 rfl rfl 2 (by decide) k_3 (fun _ h9 => h9) rfl dX5_count_113 ?_
    refine va_get (D := D) (ci := 0) (v := .int yr) (C := RX0) (T := TX0) (N := 9) hx hb hts hinX0 hown hE.1 hP 3 rfl rfl 8 (by decide) k_6 (fun _ h9 => h9) rfl dX5_count_116 ?_
    exact W.iret (v := yr) hx hb hr (fun t ht hW => ⟨yr, rfl, (by rw [cntC]; simp [c_1_0, c_1_1, c_1_2, c_1_3, c_1_4, c_1_5, c_1_6]), ht⟩) (fun q h => by cases h) dX5_count_119
  by_cases c_1_7 : what = 7
  · refine lv_tableIn (tgt := 120) hx hb dX5_count_1 (by rw [c_1_7]; decide) (by rw [c_1_7]; decide) (by rw [c_1_7]; rfl) (by decide) ?_
    refine lv_aload_n hx hb dX5_count_120 rfl (lv_at hl 0 rfl) ?_
    refine va_get (D := D) (ci := 5) (v := .ref bk) (C := RX5) (T := TX5) (N := 8) hx hb hts hinX5 hown hE.1 hP 0 rfl rfl 2 (by decide) k_3 (fun _ h9 => h9) rfl dX5_count_121 ?_
    refine va_get (D := D) (ci := 0) (v := .int (nI sn)) (C := RX0) (T := TX0) (N := 9) hx hb hts hinX0 hown hE.1 hP 3 rfl rfl 7 (by decide) k_7 (fun _ h9 => h9) rfl dX5_count_124 ?_
    exact W.iret (v := nI sn) hx hb hr (fun t ht hW => ⟨(nI sn), rfl, (by rw [cntC]; simp [c_1_0, c_1_1, c_1_2, c_1_3, c_1_4, c_1_5, c_1_6, c_1_7]), ht⟩) (fun q h => by cases h) dX5_count_127
  by_cases c_1_8 : what = 8
  · refine lv_tableIn (tgt := 128) hx hb dX5_count_1 (by rw [c_1_8]; decide) (by rw [c_1_8]; decide) (by rw [c_1_8]; rfl) (by decide) ?_
    refine lv_aload_n hx hb dX5_count_128 rfl (lv_at hl 0 rfl) ?_
    refine va_get (D := D) (ci := 5) (v := .ref pg) (C := RX5) (T := TX5) (N := 8) hx hb hts hinX5 hown hE.1 hP 0 rfl rfl 0 (by decide) k_8 (fun _ h9 => h9) rfl dX5_count_129 ?_
    refine va_get (D := D) (ci := 4) (v := .int (nI P)) (C := RX4) (T := TX4) (N := 3) hx hb hts hinX4 hown hE.1 hP 1 rfl rfl 1 (by decide) k_9 (fun _ h9 => h9) rfl dX5_count_132 ?_
    exact W.iret (v := nI P) hx hb hr (fun t ht hW => ⟨(nI P), rfl, (by rw [cntC]; simp [c_1_0, c_1_1, c_1_2, c_1_3, c_1_4, c_1_5, c_1_6, c_1_7, c_1_8]), ht⟩) (fun q h => by cases h) dX5_count_135
  by_cases c_1_9 : what = 9
  · refine lv_tableIn (tgt := 136) hx hb dX5_count_1 (by rw [c_1_9]; decide) (by rw [c_1_9]; decide) (by rw [c_1_9]; rfl) (by decide) ?_
    refine lv_aload_n hx hb dX5_count_136 rfl (lv_at hl 0 rfl) ?_
    refine va_get (D := D) (ci := 5) (v := .int tr) (C := RX5) (T := TX5) (N := 8) hx hb hts hinX5 hown hE.1 hP 0 rfl rfl 7 (by decide) k_10 (fun _ h9 => h9) rfl dX5_count_137 ?_
    exact W.iret (v := tr) hx hb hr (fun t ht hW => ⟨tr, rfl, (by rw [cntC]; simp [c_1_0, c_1_1, c_1_2, c_1_3, c_1_4, c_1_5, c_1_6, c_1_7, c_1_8, c_1_9]), ht⟩) (fun q h => by cases h) dX5_count_140
  refine lv_tableOut (tgt := 141) hx hb dX5_count_1 (zsw (n := 9) (fun j hj => match j, hj with | 0, _ => c_1_0 | 1, _ => c_1_1 | 2, _ => c_1_2 | 3, _ => c_1_3 | 4, _ => c_1_4 | 5, _ => c_1_5 | 6, _ => c_1_6 | 7, _ => c_1_7 | 8, _ => c_1_8 | 9, _ => c_1_9 | k + 10, h => absurd h (by omega)) (by decide)) (by decide) ?_
  refine lv_bipush (v := (-102)) hx hb dX5_count_141 (by decide) ?_
  exact W.iret (v := (-102)) hx hb hr (fun t ht hW => ⟨(-102), rfl, (by rw [cntC]; simp [c_1_0, c_1_1, c_1_2, c_1_3, c_1_4, c_1_5, c_1_6, c_1_7, c_1_8, c_1_9]), ht⟩) (fun q h => by cases h) dX5_count_143
