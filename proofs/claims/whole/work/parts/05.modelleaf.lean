
/-! PURE WORDS of the reference's leaves, and rows for longs and array contents -/
theorem zl_lt {x y : Int64} (h : lg_cmp x y < 0) : x < y := by
  unfold lg_cmp at h
  by_cases q : x > y
  · rw [if_pos q] at h; exact absurd h (by decide)
  · rw [if_neg q] at h
    by_cases q2 : x = y
    · rw [if_pos q2] at h; exact absurd h (by decide)
    · exact Int64.lt_of_le_of_ne (Int64.not_lt.mp q) q2
theorem zl_gt {x y : Int64} (h : 0 < lg_cmp x y) : y < x := by
  unfold lg_cmp at h
  by_cases q : x > y
  · exact q
  · rw [if_neg q] at h
    by_cases q2 : x = y
    · rw [if_pos q2] at h; exact absurd h (by decide)
    · rw [if_neg q2] at h; exact absurd h (by decide)
theorem zl_nlt {x y : Int64} (h : ¬ lg_cmp x y < 0) : y ≤ x := by
  refine Int64.not_lt.mp (fun q => h ?_)
  unfold lg_cmp
  rw [if_neg (fun z => absurd (Int64.lt_trans q z) (by simp)), if_neg (fun z => by subst z; simp at q)]
  decide
theorem zl_ngt {x y : Int64} (h : ¬ 0 < lg_cmp x y) : x ≤ y := by
  refine Int64.not_lt.mp (fun q => h ?_)
  unfold lg_cmp
  rw [if_pos q]
  decide
theorem zl_le {x y : Int64} (h : lg_cmp x y ≤ 0) : x ≤ y := zl_ngt (fun q => absurd (Int32.not_lt.mpr h) (fun z => z q))
theorem zl_nle {x y : Int64} (h : ¬ lg_cmp x y ≤ 0) : y < x := zl_gt (Int32.not_le.mp h)
theorem zin {x lo hi : Int32} {a b : Int64} (ha : lo.toInt64 = a) (hb : hi.toInt64 = b) : (a ≤ x.toInt64 ∧ x.toInt64 ≤ b) ↔ (lo ≤ x ∧ x ≤ hi) := by
  subst ha; subst hb
  rw [Int64.le_iff_toInt_le, Int64.le_iff_toInt_le, Int32.le_iff_toInt_le, Int32.le_iff_toInt_le, Int32.toInt_toInt64, Int32.toInt_toInt64, Int32.toInt_toInt64]
theorem zkeep {k : Int32} {K : Nat} (hK : K < 2 ^ 30) : (0 ≤ k.toInt64 ∧ k.toInt64 ≤ (nI K - 1).toInt64) ↔ (¬ k < 0 ∧ k < nI K) := by
  rw [zin (lo := 0) (hi := nI K - 1) (by decide) rfl, Int32.not_lt, Int32.le_iff_toInt_le (x := k), Int32.lt_iff_toInt_lt (x := k), show nI K - 1 = nI K - nI 1 from rfl, pk_sub_toInt hK (by decide), nI_toInt (by omega)]
  constructor
  · rintro ⟨h1, h2⟩; exact ⟨h1, by omega⟩
  · rintro ⟨h1, h2⟩; exact ⟨h1, by omega⟩
theorem z_Pext {D : va_G} {ws : va_W} {H : Heap} {a n : Nat} {cX : ClassId} {f : Nat → Int32} (hP : va_P D vwCl ws H) (q0 : Nat) (ha : ws[q0]? = some (a, .inl (cX, n, .inl f))) {g : Nat → Int32} (h : ∀ j : Nat, j < n → f j = g j) : va_P D vwCl (ws.set q0 (a, .inl (cX, n, .inl g))) H := by
  intro k q hq
  by_cases hk : k = q0
  · subst hk
    have hl : k < ws.length := (List.getElem?_eq_some_iff.mp ha).1
    rw [List.getElem?_set_self hl] at hq
    cases hq
    have h1 := hP k _ ha
    have e : vp_cell cX (n, .inl f) = vp_cell cX (n, .inl g) := by
      rw [vp_cell_i, vp_cell_i]
      unfold arrV
      congr 1
      apply Array.ext
      · simp
      · intro i hi1 hi2
        simp at hi1
        simp [h i hi1]
    show H[a]? = some (vp_cell cX (n, .inl g))
    rw [← e]
    exact h1
  · rw [List.getElem?_set_ne (fun z => hk z.symm)] at hq
    exact hP k q hq
def cpN (f g : Nat → Int32) (n : Nat) : Nat → Int32 := fun j => if j < n then f j else g j
theorem cpN_0 (f g : Nat → Int32) : cpN f g 0 = g := by funext j; simp [cpN]
theorem cpN_s (f g : Nat → Int32) (i : Nat) : upd (cpN f g i) i (f i) = cpN f g (i + 1) := by
  funext j
  by_cases h : j = i
  · subst h; simp [cpN, upd]
  · by_cases h2 : j < i
    · simp [cpN, upd, h, h2, Nat.lt_succ_of_lt h2]
    · simp [cpN, upd, h, h2, show ¬ j < i + 1 by omega]
def kb (c : Int32) : Int32 := if c = 107 then 0 else if c = 119 then 1 else if c = 108 then 2 else if c = 98 then 3 else if c = 109 then 4 else -1
def tb (kind faith hard : Int32) : Int32 :=
  (fun (v : Int32) => (fun (v : Int32) => (fun (v : Int32) => if 0 ≤ v then (if v ≤ 10 then v else 10) else 0) (if kind = 1 ∨ kind = 4 then (if 3 ≤ v then v else 3) else v)) (if kind = 3 then v - hard else v)) (if kind = 4 then faith + 5 - hard + 2 else faith + 5 - hard)
def dig (c : Int32) : Prop := 48 ≤ c ∧ c ≤ 57
def gR (pg : Nat → Int32) (ea : Int32) (i : Nat) : Int32 :=
  if ea = -1 then (if i % 3 = 2 then (if pg i = 59 ∧ 4 < i then 1 else zb (pg i = 44 ∧ i < 14)) else if i % 3 = 0 then zb (¬ kb (pg i) = -1) else zb (48 ≤ pg i ∧ pg i ≤ 57)) else zb (nI i - ea < 6 ∧ (48 ≤ pg i ∧ pg i ≤ 57))
def gE (pg : Nat → Int32) (ea : Int32) (i : Nat) : Int32 := if ea = -1 ∧ i % 3 = 2 ∧ pg i = 59 ∧ 4 < i then nI i else ea
def scF (R E : Int32 → Nat → Int32) : Nat → Nat → Int32 → Nat × Int32
  | 0, i, e => (i, e)
  | n + 1, i, e => if R e i = 0 then (i, E e i) else scF R E n (i + 1) (E e i)
def sOfN (ns : Nat → Int32) (k : Int32) : Nat → Int32
  | 0 => 0
  | i + 1 => sOfN ns k i ||| (if ns (4 * i + 1) = k then 1 <<< (nI i &&& 31) else 0)
def oneN (x : Int32) : Nat → Int32
  | 0 => 0
  | i + 1 => oneN x i + ((x >>> (nI i &&& 31)) &&& 1)
def eInN (ns : Nat → Int32) (x : Int32) : Nat → Int32
  | 0 => 0
  | i + 1 => eInN ns x i + ((x >>> (nI i &&& 31)) &&& 1) * ns (4 * i + 3)
def brdN (ns : Nat → Int32) (b : Int32) : Nat → Int32
  | 0 => 0
  | i + 1 => brdN ns b i + (if ns (4 * i + 2) = b then 1 else 0)
def brkN (rw : Nat → Int32) : Nat → Int32
  | 0 => 0
  | i + 1 => brkN rw i + rw (3 * i + 2)
def wayN (rw si : Nat → Int32) (k : Nat) (fa : Int32) : Nat → Int64
  | 0 => 1
  | i + 1 => wayN rw si k fa i * (if si (3 * i) = nI k then (if si (3 * i + 2) = 1 then (tb (rw (3 * k)) fa (si (3 * i + 1))).toInt64 else (10 - tb (rw (3 * k)) fa (si (3 * i + 1))).toInt64) else 1)
def faiN (w : Nat → Int64) : Nat → Int32
  | 0 => 0
  | v + 1 => faiN w v ||| (if w v ≤ 0 then (0 : Int32) else (1 : Int32) <<< (nI v &&& 31))
def likM (w : Nat → Int64) : Nat → Int64
  | 0 => 0
  | v + 1 => if w v ≤ likM w v then likM w v else w v
def likN (w : Nat → Int64) : Nat → Int32
  | 0 => -1
  | v + 1 => if w v ≤ likM w v then likN w v else nI v
def tIn (rw ns : Nat → Int32) (h : Nat) : Int32 := if ns (4 * h + 1) = -1 then -1 else tb (rw (3 * (ns (4 * h + 1)).toNatClampNeg)) (rw (3 * (ns (4 * h + 1)).toNatClampNeg + 1)) (ns (4 * h))
theorem tIn_k {rw ns : Nat → Int32} {h k : Nat} (e : ns (4 * h + 1) = nI k) (hk : k < 5) : tIn rw ns h = tb (rw (3 * k)) (rw (3 * k + 1)) (ns (4 * h)) := by
  have h1 : ¬ nI k = -1 := fun q => by
    have := congrArg Int32.toInt q
    rw [nI_toInt (by omega)] at this
    have h2 : (-1 : Int32).toInt = -1 := by decide
    omega
  rw [tIn, e, if_neg h1, nI_clamp (by omega)]
def tellH (rw ns : Nat → Int32) (h : Nat) (what : Int32) : Int32 := if 0 ≤ what ∧ what ≤ 3 then ns (4 * h + what.toNatClampNeg) else if what = 4 then tIn rw ns h else -102
/-- whoever a hole is let to is a keeper -/
def letOk (ns : Nat → Int32) (K Hn : Nat) : Prop := ∀ h : Nat, h < Hn → ns (4 * h + 1) = -1 ∨ ∃ k : Nat, k < K ∧ ns (4 * h + 1) = nI k
set_option maxHeartbeats 4000000 in
set_option maxRecDepth 100000 in
theorem c_X6_in (l : Launch) (D : va_G) (cI cZ cA : ClassId) (v0 : Int64) (lo0 : Int64) (hi0 : Int64)  : Met l yX6_in wsX6_in (zr 1) (va_Pc [.long v0, .long lo0, .long hi0] (zPr D cI cZ cA [])) (vp_Si (fun r => r = zb (lo0 ≤ v0 ∧ v0 ≤ hi0))) 0 0 (fun _ => False) := by
  refine Met.ofW (cc := cX6_in) (maxL := 6) (ret := (some .boolean)) (by decide) rfl ?_
  intro p e s m args below meth c s₁ B hml hv
  obtain ⟨rfl, hP, hE⟩ := hv
  have hx := B.exec
  have hb := B.bytes
  have hr := B.returns
  have hts := atoms_spec (ws := wsX6_in) B.pre
  have hown : s.vm.findClass RX6 = some m.cls := findClass_of_methodNamed B.named
  have hlocks := B.notSynchronized
  have hP : va_P D vwCl [] s.heap := hP
  have hl := lv_entry ([.long v0, .long lo0, .long hi0]) (n := 6) (Nat.le_of_ble_eq_true rfl)
  rw [lg_entry_eq]
  generalize (lg_sl ([.long v0, .long lo0, .long hi0]) ++ List.replicate (6 - (lg_sl ([.long v0, .long lo0, .long hi0])).length) Slot.unset).toArray = ls at hl ⊢
  have hl : lv_has ls 6 [(0, .long v0), (2, .long lo0), (4, .long hi0)] := hl
  refine lv_lload_n hx hb dX6_in_0 rfl (lv_at hl 0 rfl) ?_
  refine lv_lload_n hx hb dX6_in_1 rfl (lv_at hl 1 rfl) ?_
  refine W.lcmp hx hb dX6_in_2 ?_
  refine lv_if_lt (tgt := 17) hx hb dX6_in_3 (by decide) (fun c_3 => ?_) (fun c_3 => ?_)
  · have c_3 := zl_lt c_3
    refine lv_iconst (v := 0) hx hb dX6_in_17 (by decide) ?_
    exact W.zret (v := 0) hx hb hr rfl (fun t ht hW => ⟨0, rfl, (zb_f (fun h => Int64.not_lt.mpr h.1 c_3)).symm, ht⟩) (fun q h => by cases h) dX6_in_18
  · have c_3 := zl_nlt c_3
    refine lv_lload_n hx hb dX6_in_6 rfl (lv_at hl 0 rfl) ?_
    refine lv_lload hx hb dX6_in_7 (lv_at hl 2 rfl) ?_
    refine W.lcmp hx hb dX6_in_9 ?_
    refine lv_if_gt (tgt := 17) hx hb dX6_in_10 (by decide) (fun c_10 => ?_) (fun c_10 => ?_)
    · have c_10 := zl_gt c_10
      refine lv_iconst (v := 0) hx hb dX6_in_17 (by decide) ?_
      exact W.zret (v := 0) hx hb hr rfl (fun t ht hW => ⟨0, rfl, (zb_f (fun h => Int64.not_lt.mpr h.2 c_10)).symm, ht⟩) (fun q h => by cases h) dX6_in_18
    · have c_10 := zl_ngt c_10
      refine lv_iconst (v := 1) hx hb dX6_in_13 (by decide) ?_
      refine lv_goto (tgt := 18) hx hb dX6_in_14 (by decide) ?_
      exact W.zret (v := 1) hx hb hr rfl (fun t ht hW => ⟨1, rfl, (zb_t ⟨c_3, c_10⟩).symm, ht⟩) (fun q h => by cases h) dX6_in_18

set_option maxHeartbeats 4000000 in
set_option maxRecDepth 100000 in
theorem c_X6_copy (l : Launch) (D : va_G) (cI cZ cA : ClassId) (sz : Nat) (a0 : Nat) (b0 : Nat) (n0 : Nat) (f0 : Nat → Int32) (g0 : Nat → Int32) (hn : n0 < 1000) : Met l yX6_copy wsX6_copy (zr 1) (va_Pc [.ref a0, .ref b0] (zPw D cI cZ cA [(a0, .inl (cI, n0, .inl f0)), (b0, .inl (cI, n0, .inl g0))] sz)) (va_Qv (fun (_ : Unit) => True) (zB D [(a0, .inl (cI, n0, .inl f0)), (b0, .inl (cI, n0, .inl f0))] (va_A [(a0, .inl (cI, n0, .inl f0)), (b0, .inl (cI, n0, .inl g0))] sz)) (va_A [(a0, .inl (cI, n0, .inl f0)), (b0, .inl (cI, n0, .inl g0))] sz)) 0 0 (va_A [(a0, .inl (cI, n0, .inl f0)), (b0, .inl (cI, n0, .inl g0))] sz) := by
  refine Met.ofW (cc := cX6_copy) (maxL := 3) (ret := none) (by decide) rfl ?_
  intro p e s m args below meth c s₁ B hml hv
  obtain ⟨rfl, hsz, hP, hD0, hE⟩ := hv
  have hx := B.exec
  have hb := B.bytes
  have hr := B.returns
  have hts := atoms_spec (ws := wsX6_copy) B.pre
  have hown : s.vm.findClass RX6 = some m.cls := findClass_of_methodNamed B.named
  have hlocks := B.notSynchronized
  subst hsz
  have hD := hD0.self (sz := s.heap.size)
  generalize hAe : va_A [(a0, .inl (cI, n0, .inl f0)), (b0, .inl (cI, n0, .inl g0))] s.heap.size = A at hD ⊢
  have hA : ∀ q : Nat, s.heap.size ≤ q → A q := fun q h => by rw [← hAe]; exact Or.inr h
  have hS : va_S A s.heap s.heap [] := va_S.rf
  have hP : va_P D vwCl [(a0, .inl (cI, n0, .inl f0)), (b0, .inl (cI, n0, .inl g0))] s.heap := hP
  have hD : va_D A [(a0, .inl (cI, n0, .inl f0)), (b0, .inl (cI, n0, .inl g0))] := hD
  have hl := lv_entry ([.ref a0, .ref b0]) (n := 3) (Nat.le_of_ble_eq_true rfl)
  rw [lg_entry_eq]
  generalize (lg_sl ([.ref a0, .ref b0]) ++ List.replicate (3 - (lg_sl ([.ref a0, .ref b0])).length) Slot.unset).toArray = ls at hl ⊢
  have hl : lv_has ls 3 [(0, .ref a0), (1, .ref b0)] := hl
  refine lv_iconst (v := 0) hx hb dX6_copy_0 (by decide) ?_
  refine lv_istore_n (lv' := [(2, .int 0), (0, .ref a0), (1, .ref b0)]) hx hb dX6_copy_1 rfl hl (by decide) rfl (fun ls hl => ?_)
  have hc2_1 : ∀ (n : Nat) (i : Nat), (i ≤ n0) → (n0 + 1 ≤ i + n) → ∀ (w2 : Int32), w2 = nI i → ∀ (wf : Nat → Int32), wf = cpN f0 g0 i → ∀ (H : Heap) (locs : List Loc), va_P D vwCl [(a0, .inl (cI, n0, .inl f0)), (b0, .inl (cI, n0, .inl wf))] H → va_D A [(a0, .inl (cI, n0, .inl f0)), (b0, .inl (cI, n0, .inl wf))] → va_S A s.heap H locs → ∀ (ls : Array Slot), lv_has ls 3 [(2, .int w2), (0, .ref a0), (1, .ref b0)] → W p l e (headSpec wsX6_copy (zr 1)).room s m ([.ref a0, .ref b0] : List Value).toArray below meth c H locs 0 0 (MQ below (va_Qv (fun (_ : Unit) => True) (zB D [(a0, .inl (cI, n0, .inl f0)), (b0, .inl (cI, n0, .inl f0))] A) A) ([.ref a0, .ref b0] : List Value).toArray s 0 0 A) (F0 m 2 ls []) := by
    intro n
    induction n with
    | zero => intro i hi hfu; exact absurd hfu (by omega)
    | succ n ihhc2_1 =>
      intro i hi hfu w2 ew2 wf ewf H locs hP hD hS ls hl
      subst ew2
      subst ewf
      refine lv_iload_n hx hb dX6_copy_2 rfl (lv_at hl 0 rfl) ?_
      refine lv_aload_n hx hb dX6_copy_3 rfl (lv_at hl 1 rfl) ?_
      refine z_alen hx hb hE hP 0 rfl dX6_copy_4 ?_
      refine lv_icmp_ge (tgt := 20) hx hb dX6_copy_5 (by decide) (fun c_5 => ?_) (fun c_5 => ?_)
      · have n_5 := zn_le (a := n0) (b := i) rfl rfl c_5 (by omega) (by omega)
        obtain rfl : n0 = i := by omega
        have hP := z_Pext hP 1 rfl (g := f0) (fun j hj => if_pos hj)
        have hD := hD.set (p := 1) (e := .inl (cI, n0, .inl f0)) rfl
        have hP : va_P D vwCl [(a0, .inl (cI, n0, .inl f0)), (b0, .inl (cI, n0, .inl f0))] _ := hP
        have hD : va_D A [(a0, .inl (cI, n0, .inl f0)), (b0, .inl (cI, n0, .inl f0))] := hD
        have hP9 := hP.sub (ws' := [(a0, .inl (cI, n0, .inl f0)), (b0, .inl (cI, n0, .inl f0))]) [0, 1] rfl
        have hD9 := hD.sub (ws' := [(a0, .inl (cI, n0, .inl f0)), (b0, .inl (cI, n0, .inl f0))]) [0, 1] (by decide) rfl
        exact W.vret hx hb hr (fun t ht hW => ⟨⟨(), rfl, trivial, by rw [ht]; exact hP9, hD9⟩, hS.F ht⟩) hS.2.2 dX6_copy_20
      · have n_5 := zn_nle (a := n0) (b := i) rfl rfl c_5 (by omega) (by omega)
        refine lv_aload_n hx hb dX6_copy_8 rfl (lv_at hl 2 rfl) ?_
        refine lv_iload_n hx hb dX6_copy_9 rfl (lv_at hl 0 rfl) ?_
        refine lv_aload_n hx hb dX6_copy_10 rfl (lv_at hl 1 rfl) ?_
        refine lv_iload_n hx hb dX6_copy_11 rfl (lv_at hl 0 rfl) ?_
        refine z_iald hx hb hE hP 0 rfl (j := i) rfl (by omega) (by omega) dX6_copy_12 ?_
        refine z_iast hx hb hE hP hD hS 1 rfl (j := i) rfl (by omega) (by omega) dX6_copy_13 (fun H locs hP hD hS => ?_)
        have hP : va_P D vwCl [(a0, .inl (cI, n0, .inl f0)), (b0, .inl (cI, n0, .inl (upd (cpN f0 g0 i) i (f0 i))))] H := hP
        have hD : va_D A [(a0, .inl (cI, n0, .inl f0)), (b0, .inl (cI, n0, .inl (upd (cpN f0 g0 i) i (f0 i))))] := hD
        refine lv_iinc (v := nI (i + 1)) (lv' := [(2, .int (nI (i + 1))), (0, .ref a0), (1, .ref b0)]) hx hb dX6_copy_14 hl (k := 0) rfl (nI_add i 1) (by decide) rfl (fun ls hl => ?_)
        refine lv_goto (tgt := 2) hx hb dX6_copy_17 (by decide) ?_
        exact ihhc2_1 (i + 1) (by omega) (by omega) (nI (i + 1)) rfl (upd (cpN f0 g0 i) i (f0 i)) (cpN_s f0 g0 i) _ _ (hP.sub [0, 1] rfl) (hD.sub [0, 1] (by decide) rfl) hS ls (lv_sub hl [0, 1, 2] rfl)
  exact hc2_1 (n0 + 1) 0 (by omega) (by omega) 0 rfl g0 (cpN_0 f0 g0).symm _ _ (hP.sub [0, 1] rfl) (hD.sub [0, 1] (by decide) rfl) hS ls (lv_sub hl [0, 1, 2] rfl)

set_option maxHeartbeats 4000000 in
set_option maxRecDepth 100000 in
theorem c_X6_common (l : Launch) (D : va_G) (cI cZ cA : ClassId) (a0 : Nat) (b0 : Nat) (ha0 : a0 < 2 ^ 62) (hb0 : b0 < 2 ^ 62) : Met l yX6_common wsX6_common (zr 1) (va_Pc [.long (lN a0), .long (lN b0)] (zPr D cI cZ cA [])) (vp_Sl (fun r => r = lN (Nat.gcd a0 b0))) 0 0 (fun _ => False) := by
  refine Met.ofW (cc := cX6_common) (maxL := 10) (ret := (some .long)) (by decide) rfl ?_
  intro p e s m args below meth c s₁ B hml hv
  obtain ⟨rfl, hP, hE⟩ := hv
  have hx := B.exec
  have hb := B.bytes
  have hr := B.returns
  have hts := atoms_spec (ws := wsX6_common) B.pre
  have hown : s.vm.findClass RX6 = some m.cls := findClass_of_methodNamed B.named
  have hlocks := B.notSynchronized
  have hP : va_P D vwCl [] s.heap := hP
  have hl := lv_entry ([.long (lN a0), .long (lN b0)]) (n := 10) (Nat.le_of_ble_eq_true rfl)
  rw [lg_entry_eq]
  generalize (lg_sl ([.long (lN a0), .long (lN b0)]) ++ List.replicate (10 - (lg_sl ([.long (lN a0), .long (lN b0)])).length) Slot.unset).toArray = ls at hl ⊢
  have hl : lv_has ls 10 [(0, .long (lN a0)), (2, .long (lN b0))] := hl
  refine lv_lload_n hx hb dX6_common_0 rfl (lv_at hl 0 rfl) ?_
  refine lv_lstore (lv' := [(4, .long (lN a0)), (0, .long (lN a0)), (2, .long (lN b0))]) hx hb dX6_common_1 hl (by decide) rfl (fun ls hl => ?_)
  refine lv_lload_n hx hb dX6_common_3 rfl (lv_at hl 2 rfl) ?_
  refine lv_lstore (lv' := [(6, .long (lN b0)), (4, .long (lN a0)), (0, .long (lN a0)), (2, .long (lN b0))]) hx hb dX6_common_4 hl (by decide) rfl (fun ls hl => ?_)
  have hc6_1 : ∀ (n : Nat) (a : Nat) (b : Nat), (a < 2 ^ 62) → (b < 2 ^ 62) → (Nat.gcd a b = Nat.gcd a0 b0) → (b + 1 ≤ n) → ∀ (w4 : Int64), w4 = lN a → ∀ (w6 : Int64), w6 = lN b → ∀ (ls : Array Slot), lv_has ls 10 [(6, .long w6), (4, .long w4)] → W p l e (headSpec wsX6_common (zr 1)).room s m ([.long (lN a0), .long (lN b0)] : List Value).toArray below meth c s.heap [] 0 0 (MQ below (vp_Sl (fun r => r = lN (Nat.gcd a0 b0))) ([.long (lN a0), .long (lN b0)] : List Value).toArray s 0 0 (fun _ => False)) (F0 m 6 ls []) := by
    intro n
    induction n with
    | zero => intro a b ha hb2 hg hfu; exact absurd hfu (by omega)
    | succ n ihhc6_1 =>
      intro a b ha hb2 hg hfu w4 ew4 w6 ew6 ls hl
      subst ew4
      subst ew6
      refine lv_lload hx hb dX6_common_6 (lv_at hl 0 rfl) ?_
      refine lv_lconst (v := 0) hx hb dX6_common_8 (by decide) ?_
      refine W.lcmp hx hb dX6_common_9 ?_
      refine lv_if_le (tgt := 31) hx hb dX6_common_10 (by decide) (fun c_10 => ?_) (fun c_10 => ?_)
      · have c_10 := zl_le c_10
        have hb0 : b = 0 := by
          have := (pk_lLE (a := b) (b := 0) (by omega) (by omega)).mp c_10
          omega
        subst hb0
        rw [Nat.gcd_zero_right] at hg
        refine lv_lload hx hb dX6_common_31 (lv_at hl 1 rfl) ?_
        exact W.lret (v := lN a) hx hb hr (fun t ht hW => ⟨(lN a), rfl, (by rw [hg]), ht⟩) (fun q h => by cases h) dX6_common_33
      · have c_10 := zl_nle c_10
        have hbp : 0 < b := (pk_lLT (a := 0) (b := b) (by omega) (by omega)).mp c_10
        have hml2 : a % b < b := Nat.mod_lt _ hbp
        refine lv_lload hx hb dX6_common_13 (lv_at hl 1 rfl) ?_
        refine lv_lload hx hb dX6_common_15 (lv_at hl 0 rfl) ?_
        refine lv_lrem hx hb dX6_common_17 (fun q => absurd ((pk_lEQ (a := b) (b := 0) (by omega) (by omega)).mp q) (by omega)) ?_
        refine lv_lstore (lv' := [(8, .long ((lN a) - (lN a) / (lN b) * (lN b))), (6, .long (lN b)), (4, .long (lN a))]) hx hb dX6_common_18 hl (by decide) rfl (fun ls hl => ?_)
        refine lv_lload hx hb dX6_common_20 (lv_at hl 1 rfl) ?_
        refine lv_lstore (lv' := [(4, .long (lN b)), (8, .long ((lN a) - (lN a) / (lN b) * (lN b))), (6, .long (lN b))]) hx hb dX6_common_22 hl (by decide) rfl (fun ls hl => ?_)
        refine lv_lload hx hb dX6_common_24 (lv_at hl 1 rfl) ?_
        refine lv_lstore (lv' := [(6, .long ((lN a) - (lN a) / (lN b) * (lN b))), (4, .long (lN b)), (8, .long ((lN a) - (lN a) / (lN b) * (lN b)))]) hx hb dX6_common_26 hl (by decide) rfl (fun ls hl => ?_)
        refine lv_goto (tgt := 6) hx hb dX6_common_28 (by decide) ?_
        exact ihhc6_1 b (a % b) hb2 (by omega) (by rw [← hg, Nat.gcd_comm b, ← Nat.gcd_rec, Nat.gcd_comm]) (by omega) (lN b) rfl ((lN a) - (lN a) / (lN b) * (lN b)) (pk_lRem (by omega) (by omega) (by omega)) ls (lv_sub hl [0, 1] rfl)
  exact hc6_1 (b0 + 1) a0 b0 ha0 hb0 rfl (by omega) (lN a0) rfl (lN b0) rfl ls (lv_sub hl [0, 1] rfl)

set_option maxHeartbeats 4000000 in
set_option maxRecDepth 100000 in
theorem c_X6_kindBy (l : Launch) (D : va_G) (cI cZ cA : ClassId) (c0 : Int32)  : Met l yX6_kindBy wsX6_kindBy (zr 1) (va_Pc [.int c0] (zPr D cI cZ cA [])) (vp_Si (fun r => r = kb c0)) 0 0 (fun _ => False) := by
  refine Met.ofW (cc := cX6_kindBy) (maxL := 1) (ret := (some .int)) (by decide) rfl ?_
  intro p e s m args below meth c s₁ B hml hv
  obtain ⟨rfl, hP, hE⟩ := hv
  have hx := B.exec
  have hb := B.bytes
  have hr := B.returns
  have hts := atoms_spec (ws := wsX6_kindBy) B.pre
  have hown : s.vm.findClass RX6 = some m.cls := findClass_of_methodNamed B.named
  have hlocks := B.notSynchronized
  have hP : va_P D vwCl [] s.heap := hP
  have hl := lv_entry ([.int c0]) (n := 1) (Nat.le_of_ble_eq_true rfl)
  rw [lg_entry_eq]
  generalize (lg_sl ([.int c0]) ++ List.replicate (1 - (lg_sl ([.int c0])).length) Slot.unset).toArray = ls at hl ⊢
  have hl : lv_has ls 1 [(0, .int c0)] := hl
  refine lv_iload_n hx hb dX6_kindBy_0 rfl (lv_at hl 0 rfl) ?_
  refine lv_bipush (v := 107) hx hb dX6_kindBy_1 (by decide) ?_
  refine lv_icmp_ne (tgt := 10) hx hb dX6_kindBy_3 (by decide) (fun c_3 => ?_) (fun c_3 => ?_)
  · refine lv_iload_n hx hb dX6_kindBy_10 rfl (lv_at hl 0 rfl) ?_
    refine lv_bipush (v := 119) hx hb dX6_kindBy_11 (by decide) ?_
    refine lv_icmp_ne (tgt := 20) hx hb dX6_kindBy_13 (by decide) (fun c_13 => ?_) (fun c_13 => ?_)
    · refine lv_iload_n hx hb dX6_kindBy_20 rfl (lv_at hl 0 rfl) ?_
      refine lv_bipush (v := 108) hx hb dX6_kindBy_21 (by decide) ?_
      refine lv_icmp_ne (tgt := 30) hx hb dX6_kindBy_23 (by decide) (fun c_23 => ?_) (fun c_23 => ?_)
      · refine lv_iload_n hx hb dX6_kindBy_30 rfl (lv_at hl 0 rfl) ?_
        refine lv_bipush (v := 98) hx hb dX6_kindBy_31 (by decide) ?_
        refine lv_icmp_ne (tgt := 40) hx hb dX6_kindBy_33 (by decide) (fun c_33 => ?_) (fun c_33 => ?_)
        · refine lv_iload_n hx hb dX6_kindBy_40 rfl (lv_at hl 0 rfl) ?_
          refine lv_bipush (v := 109) hx hb dX6_kindBy_41 (by decide) ?_
          refine lv_icmp_ne (tgt := 50) hx hb dX6_kindBy_43 (by decide) (fun c_43 => ?_) (fun c_43 => ?_)
          · refine lv_iconst (v := (-1)) hx hb dX6_kindBy_50 (by decide) ?_
            exact W.iret (v := (-1)) hx hb hr (fun t ht hW => ⟨(-1), rfl, (by unfold kb; grind), ht⟩) (fun q h => by cases h) dX6_kindBy_51
          · refine lv_iconst (v := 4) hx hb dX6_kindBy_46 (by decide) ?_
            refine lv_goto (tgt := 51) hx hb dX6_kindBy_47 (by decide) ?_
            exact W.iret (v := 4) hx hb hr (fun t ht hW => ⟨4, rfl, (by unfold kb; grind), ht⟩) (fun q h => by cases h) dX6_kindBy_51
        · refine lv_iconst (v := 3) hx hb dX6_kindBy_36 (by decide) ?_
          refine lv_goto (tgt := 51) hx hb dX6_kindBy_37 (by decide) ?_
          exact W.iret (v := 3) hx hb hr (fun t ht hW => ⟨3, rfl, (by unfold kb; grind), ht⟩) (fun q h => by cases h) dX6_kindBy_51
      · refine lv_iconst (v := 2) hx hb dX6_kindBy_26 (by decide) ?_
        refine lv_goto (tgt := 51) hx hb dX6_kindBy_27 (by decide) ?_
        exact W.iret (v := 2) hx hb hr (fun t ht hW => ⟨2, rfl, (by unfold kb; grind), ht⟩) (fun q h => by cases h) dX6_kindBy_51
    · refine lv_iconst (v := 1) hx hb dX6_kindBy_16 (by decide) ?_
      refine lv_goto (tgt := 51) hx hb dX6_kindBy_17 (by decide) ?_
      exact W.iret (v := 1) hx hb hr (fun t ht hW => ⟨1, rfl, (by unfold kb; grind), ht⟩) (fun q h => by cases h) dX6_kindBy_51
  · refine lv_iconst (v := 0) hx hb dX6_kindBy_6 (by decide) ?_
    refine lv_goto (tgt := 51) hx hb dX6_kindBy_7 (by decide) ?_
    exact W.iret (v := 0) hx hb hr (fun t ht hW => ⟨0, rfl, (by unfold kb; grind), ht⟩) (fun q h => by cases h) dX6_kindBy_51

set_option maxHeartbeats 4000000 in
set_option maxRecDepth 100000 in
theorem c_X6_tenthsBy (l : Launch) (D : va_G) (cI cZ cA : ClassId) (kd0 : Int32) (fa0 : Int32) (hd0 : Int32)  : Met l yX6_tenthsBy wsX6_tenthsBy (zr 1) (va_Pc [.int kd0, .int fa0, .int hd0] (zPr D cI cZ cA [])) (vp_Si (fun r => r = tb kd0 fa0 hd0)) 0 0 (fun _ => False) := by
  refine Met.ofW (cc := cX6_tenthsBy) (maxL := 4) (ret := (some .int)) (by decide) rfl ?_
  intro p e s m args below meth c s₁ B hml hv
  obtain ⟨rfl, hP, hE⟩ := hv
  have hx := B.exec
  have hb := B.bytes
  have hr := B.returns
  have hts := atoms_spec (ws := wsX6_tenthsBy) B.pre
  have hown : s.vm.findClass RX6 = some m.cls := findClass_of_methodNamed B.named
  have hlocks := B.notSynchronized
  have hP : va_P D vwCl [] s.heap := hP
  have hl := lv_entry ([.int kd0, .int fa0, .int hd0]) (n := 4) (Nat.le_of_ble_eq_true rfl)
  rw [lg_entry_eq]
  generalize (lg_sl ([.int kd0, .int fa0, .int hd0]) ++ List.replicate (4 - (lg_sl ([.int kd0, .int fa0, .int hd0])).length) Slot.unset).toArray = ls at hl ⊢
  have hl : lv_has ls 4 [(0, .int kd0), (1, .int fa0), (2, .int hd0)] := hl
  refine lv_iload_n hx hb dX6_tenthsBy_0 rfl (lv_at hl 1 rfl) ?_
  refine lv_iconst (v := 5) hx hb dX6_tenthsBy_1 (by decide) ?_
  refine lv_iadd hx hb dX6_tenthsBy_2 ?_
  refine lv_iload_n hx hb dX6_tenthsBy_3 rfl (lv_at hl 2 rfl) ?_
  refine lv_isub hx hb dX6_tenthsBy_4 ?_
  refine lv_istore_n (lv' := [(3, .int ((fa0 + 5) - hd0)), (0, .int kd0), (1, .int fa0), (2, .int hd0)]) hx hb dX6_tenthsBy_5 rfl hl (by decide) rfl (fun ls hl => ?_)
  refine lv_iload_n hx hb dX6_tenthsBy_6 rfl (lv_at hl 1 rfl) ?_
  refine lv_iconst (v := 4) hx hb dX6_tenthsBy_7 (by decide) ?_
  refine lv_icmp_ne (tgt := 14) hx hb dX6_tenthsBy_8 (by decide) (fun c_8 => ?_) (fun c_8 => ?_)
  · refine lv_iload_n hx hb dX6_tenthsBy_14 rfl (lv_at hl 1 rfl) ?_
    refine lv_iconst (v := 3) hx hb dX6_tenthsBy_15 (by decide) ?_
    refine lv_icmp_ne (tgt := 23) hx hb dX6_tenthsBy_16 (by decide) (fun c_16 => ?_) (fun c_16 => ?_)
    · refine lv_iload_n hx hb dX6_tenthsBy_23 rfl (lv_at hl 1 rfl) ?_
      refine lv_iconst (v := 1) hx hb dX6_tenthsBy_24 (by decide) ?_
      refine lv_icmp_eq (tgt := 33) hx hb dX6_tenthsBy_25 (by decide) (fun c_25 => ?_) (fun c_25 => ?_)
      · refine lv_iload_n hx hb dX6_tenthsBy_33 rfl (lv_at hl 0 rfl) ?_
        refine lv_iconst (v := 3) hx hb dX6_tenthsBy_34 (by decide) ?_
        refine lv_icmp_ge (tgt := 42) hx hb dX6_tenthsBy_35 (by decide) (fun c_35 => ?_) (fun c_35 => ?_)
        · refine lv_iload_n hx hb dX6_tenthsBy_42 rfl (lv_at hl 0 rfl) ?_
          refine lv_istore_n (lv' := [(3, .int ((fa0 + 5) - hd0)), (0, .int kd0), (1, .int fa0), (2, .int hd0)]) hx hb dX6_tenthsBy_43 rfl hl (by decide) rfl (fun ls hl => ?_)
          refine lv_iload_n hx hb dX6_tenthsBy_44 rfl (lv_at hl 0 rfl) ?_
          refine lv_if_ge (tgt := 52) hx hb dX6_tenthsBy_45 (by decide) (fun c_45 => ?_) (fun c_45 => ?_)
          · refine lv_iload_n hx hb dX6_tenthsBy_52 rfl (lv_at hl 0 rfl) ?_
            refine lv_bipush (v := 10) hx hb dX6_tenthsBy_53 (by decide) ?_
            refine lv_icmp_le (tgt := 63) hx hb dX6_tenthsBy_55 (by decide) (fun c_55 => ?_) (fun c_55 => ?_)
            · refine lv_iload_n hx hb dX6_tenthsBy_63 rfl (lv_at hl 0 rfl) ?_
              exact W.iret (v := (fa0 + 5) - hd0) hx hb hr (fun t ht hW => ⟨((fa0 + 5) - hd0), rfl, (by unfold tb; grind), ht⟩) (fun q h => by cases h) dX6_tenthsBy_64
            · refine lv_bipush (v := 10) hx hb dX6_tenthsBy_58 (by decide) ?_
              refine lv_goto (tgt := 64) hx hb dX6_tenthsBy_60 (by decide) ?_
              exact W.iret (v := 10) hx hb hr (fun t ht hW => ⟨10, rfl, (by unfold tb; grind), ht⟩) (fun q h => by cases h) dX6_tenthsBy_64
          · refine lv_iconst (v := 0) hx hb dX6_tenthsBy_48 (by decide) ?_
            refine lv_goto (tgt := 64) hx hb dX6_tenthsBy_49 (by decide) ?_
            exact W.iret (v := 0) hx hb hr (fun t ht hW => ⟨0, rfl, (by unfold tb; grind), ht⟩) (fun q h => by cases h) dX6_tenthsBy_64
        · refine lv_iconst (v := 3) hx hb dX6_tenthsBy_38 (by decide) ?_
          refine lv_goto (tgt := 43) hx hb dX6_tenthsBy_39 (by decide) ?_
          refine lv_istore_n (lv' := [(3, .int 3), (0, .int kd0), (1, .int fa0), (2, .int hd0)]) hx hb dX6_tenthsBy_43 rfl hl (by decide) rfl (fun ls hl => ?_)
          refine lv_iload_n hx hb dX6_tenthsBy_44 rfl (lv_at hl 0 rfl) ?_
          refine lv_if_ge (tgt := 52) hx hb dX6_tenthsBy_45 (by decide) (fun c_45 => ?_) (fun c_45 => ?_)
          · refine lv_iload_n hx hb dX6_tenthsBy_52 rfl (lv_at hl 0 rfl) ?_
            refine lv_bipush (v := 10) hx hb dX6_tenthsBy_53 (by decide) ?_
            refine lv_icmp_le (tgt := 63) hx hb dX6_tenthsBy_55 (by decide) (fun c_55 => ?_) (fun c_55 => ?_)
            · refine lv_iload_n hx hb dX6_tenthsBy_63 rfl (lv_at hl 0 rfl) ?_
              exact W.iret (v := 3) hx hb hr (fun t ht hW => ⟨3, rfl, (by unfold tb; grind), ht⟩) (fun q h => by cases h) dX6_tenthsBy_64
            · exact absurd c_55 (by decide)
          · exact absurd c_45 (by decide)
      · refine lv_iload_n hx hb dX6_tenthsBy_28 rfl (lv_at hl 1 rfl) ?_
        refine lv_iconst (v := 4) hx hb dX6_tenthsBy_29 (by decide) ?_
        refine lv_icmp_ne (tgt := 44) hx hb dX6_tenthsBy_30 (by decide) (fun c_30 => ?_) (fun c_30 => ?_)
        · refine lv_iload_n hx hb dX6_tenthsBy_44 rfl (lv_at hl 0 rfl) ?_
          refine lv_if_ge (tgt := 52) hx hb dX6_tenthsBy_45 (by decide) (fun c_45 => ?_) (fun c_45 => ?_)
          · refine lv_iload_n hx hb dX6_tenthsBy_52 rfl (lv_at hl 0 rfl) ?_
            refine lv_bipush (v := 10) hx hb dX6_tenthsBy_53 (by decide) ?_
            refine lv_icmp_le (tgt := 63) hx hb dX6_tenthsBy_55 (by decide) (fun c_55 => ?_) (fun c_55 => ?_)
            · refine lv_iload_n hx hb dX6_tenthsBy_63 rfl (lv_at hl 0 rfl) ?_
              exact W.iret (v := (fa0 + 5) - hd0) hx hb hr (fun t ht hW => ⟨((fa0 + 5) - hd0), rfl, (by unfold tb; grind), ht⟩) (fun q h => by cases h) dX6_tenthsBy_64
            · refine lv_bipush (v := 10) hx hb dX6_tenthsBy_58 (by decide) ?_
              refine lv_goto (tgt := 64) hx hb dX6_tenthsBy_60 (by decide) ?_
              exact W.iret (v := 10) hx hb hr (fun t ht hW => ⟨10, rfl, (by unfold tb; grind), ht⟩) (fun q h => by cases h) dX6_tenthsBy_64
          · refine lv_iconst (v := 0) hx hb dX6_tenthsBy_48 (by decide) ?_
            refine lv_goto (tgt := 64) hx hb dX6_tenthsBy_49 (by decide) ?_
            exact W.iret (v := 0) hx hb hr (fun t ht hW => ⟨0, rfl, (by unfold tb; grind), ht⟩) (fun q h => by cases h) dX6_tenthsBy_64
        · refine lv_iload_n hx hb dX6_tenthsBy_33 rfl (lv_at hl 0 rfl) ?_
          refine lv_iconst (v := 3) hx hb dX6_tenthsBy_34 (by decide) ?_
          refine lv_icmp_ge (tgt := 42) hx hb dX6_tenthsBy_35 (by decide) (fun c_35 => ?_) (fun c_35 => ?_)
          · refine lv_iload_n hx hb dX6_tenthsBy_42 rfl (lv_at hl 0 rfl) ?_
            refine lv_istore_n (lv' := [(3, .int ((fa0 + 5) - hd0)), (0, .int kd0), (1, .int fa0), (2, .int hd0)]) hx hb dX6_tenthsBy_43 rfl hl (by decide) rfl (fun ls hl => ?_)
            refine lv_iload_n hx hb dX6_tenthsBy_44 rfl (lv_at hl 0 rfl) ?_
            refine lv_if_ge (tgt := 52) hx hb dX6_tenthsBy_45 (by decide) (fun c_45 => ?_) (fun c_45 => ?_)
            · refine lv_iload_n hx hb dX6_tenthsBy_52 rfl (lv_at hl 0 rfl) ?_
              refine lv_bipush (v := 10) hx hb dX6_tenthsBy_53 (by decide) ?_
              refine lv_icmp_le (tgt := 63) hx hb dX6_tenthsBy_55 (by decide) (fun c_55 => ?_) (fun c_55 => ?_)
              · refine lv_iload_n hx hb dX6_tenthsBy_63 rfl (lv_at hl 0 rfl) ?_
                exact W.iret (v := (fa0 + 5) - hd0) hx hb hr (fun t ht hW => ⟨((fa0 + 5) - hd0), rfl, (by unfold tb; grind), ht⟩) (fun q h => by cases h) dX6_tenthsBy_64
              · refine lv_bipush (v := 10) hx hb dX6_tenthsBy_58 (by decide) ?_
                refine lv_goto (tgt := 64) hx hb dX6_tenthsBy_60 (by decide) ?_
                exact W.iret (v := 10) hx hb hr (fun t ht hW => ⟨10, rfl, (by unfold tb; grind), ht⟩) (fun q h => by cases h) dX6_tenthsBy_64
            · refine lv_iconst (v := 0) hx hb dX6_tenthsBy_48 (by decide) ?_
              refine lv_goto (tgt := 64) hx hb dX6_tenthsBy_49 (by decide) ?_
              exact W.iret (v := 0) hx hb hr (fun t ht hW => ⟨0, rfl, (by unfold tb; grind), ht⟩) (fun q h => by cases h) dX6_tenthsBy_64
          · refine lv_iconst (v := 3) hx hb dX6_tenthsBy_38 (by decide) ?_
            refine lv_goto (tgt := 43) hx hb dX6_tenthsBy_39 (by decide) ?_
            refine lv_istore_n (lv' := [(3, .int 3), (0, .int kd0), (1, .int fa0), (2, .int hd0)]) hx hb dX6_tenthsBy_43 rfl hl (by decide) rfl (fun ls hl => ?_)
            refine lv_iload_n hx hb dX6_tenthsBy_44 rfl (lv_at hl 0 rfl) ?_
            refine lv_if_ge (tgt := 52) hx hb dX6_tenthsBy_45 (by decide) (fun c_45 => ?_) (fun c_45 => ?_)
            · refine lv_iload_n hx hb dX6_tenthsBy_52 rfl (lv_at hl 0 rfl) ?_
              refine lv_bipush (v := 10) hx hb dX6_tenthsBy_53 (by decide) ?_
              refine lv_icmp_le (tgt := 63) hx hb dX6_tenthsBy_55 (by decide) (fun c_55 => ?_) (fun c_55 => ?_)
              · refine lv_iload_n hx hb dX6_tenthsBy_63 rfl (lv_at hl 0 rfl) ?_
                exact W.iret (v := 3) hx hb hr (fun t ht hW => ⟨3, rfl, (by unfold tb; grind), ht⟩) (fun q h => by cases h) dX6_tenthsBy_64
              · exact absurd c_55 (by decide)
            · exact absurd c_45 (by decide)
    · refine lv_iload_n hx hb dX6_tenthsBy_19 rfl (lv_at hl 0 rfl) ?_
      refine lv_iload_n hx hb dX6_tenthsBy_20 rfl (lv_at hl 3 rfl) ?_
      refine lv_isub hx hb dX6_tenthsBy_21 ?_
      refine lv_istore_n (lv' := [(3, .int (((fa0 + 5) - hd0) - hd0)), (0, .int kd0), (1, .int fa0), (2, .int hd0)]) hx hb dX6_tenthsBy_22 rfl hl (by decide) rfl (fun ls hl => ?_)
      refine lv_iload_n hx hb dX6_tenthsBy_23 rfl (lv_at hl 1 rfl) ?_
      refine lv_iconst (v := 1) hx hb dX6_tenthsBy_24 (by decide) ?_
      refine lv_icmp_eq (tgt := 33) hx hb dX6_tenthsBy_25 (by decide) (fun c_25 => ?_) (fun c_25 => ?_)
      · refine lv_iload_n hx hb dX6_tenthsBy_33 rfl (lv_at hl 0 rfl) ?_
        refine lv_iconst (v := 3) hx hb dX6_tenthsBy_34 (by decide) ?_
        refine lv_icmp_ge (tgt := 42) hx hb dX6_tenthsBy_35 (by decide) (fun c_35 => ?_) (fun c_35 => ?_)
        · refine lv_iload_n hx hb dX6_tenthsBy_42 rfl (lv_at hl 0 rfl) ?_
          refine lv_istore_n (lv' := [(3, .int (((fa0 + 5) - hd0) - hd0)), (0, .int kd0), (1, .int fa0), (2, .int hd0)]) hx hb dX6_tenthsBy_43 rfl hl (by decide) rfl (fun ls hl => ?_)
          refine lv_iload_n hx hb dX6_tenthsBy_44 rfl (lv_at hl 0 rfl) ?_
          refine lv_if_ge (tgt := 52) hx hb dX6_tenthsBy_45 (by decide) (fun c_45 => ?_) (fun c_45 => ?_)
          · refine lv_iload_n hx hb dX6_tenthsBy_52 rfl (lv_at hl 0 rfl) ?_
            refine lv_bipush (v := 10) hx hb dX6_tenthsBy_53 (by decide) ?_
            refine lv_icmp_le (tgt := 63) hx hb dX6_tenthsBy_55 (by decide) (fun c_55 => ?_) (fun c_55 => ?_)
            · refine lv_iload_n hx hb dX6_tenthsBy_63 rfl (lv_at hl 0 rfl) ?_
              exact W.iret (v := ((fa0 + 5) - hd0) - hd0) hx hb hr (fun t ht hW => ⟨(((fa0 + 5) - hd0) - hd0), rfl, (by unfold tb; grind), ht⟩) (fun q h => by cases h) dX6_tenthsBy_64
            · refine lv_bipush (v := 10) hx hb dX6_tenthsBy_58 (by decide) ?_
              refine lv_goto (tgt := 64) hx hb dX6_tenthsBy_60 (by decide) ?_
              exact W.iret (v := 10) hx hb hr (fun t ht hW => ⟨10, rfl, (by unfold tb; grind), ht⟩) (fun q h => by cases h) dX6_tenthsBy_64
          · refine lv_iconst (v := 0) hx hb dX6_tenthsBy_48 (by decide) ?_
            refine lv_goto (tgt := 64) hx hb dX6_tenthsBy_49 (by decide) ?_
            exact W.iret (v := 0) hx hb hr (fun t ht hW => ⟨0, rfl, (by unfold tb; grind), ht⟩) (fun q h => by cases h) dX6_tenthsBy_64
        · refine lv_iconst (v := 3) hx hb dX6_tenthsBy_38 (by decide) ?_
          refine lv_goto (tgt := 43) hx hb dX6_tenthsBy_39 (by decide) ?_
          refine lv_istore_n (lv' := [(3, .int 3), (0, .int kd0), (1, .int fa0), (2, .int hd0)]) hx hb dX6_tenthsBy_43 rfl hl (by decide) rfl (fun ls hl => ?_)
          refine lv_iload_n hx hb dX6_tenthsBy_44 rfl (lv_at hl 0 rfl) ?_
          refine lv_if_ge (tgt := 52) hx hb dX6_tenthsBy_45 (by decide) (fun c_45 => ?_) (fun c_45 => ?_)
          · refine lv_iload_n hx hb dX6_tenthsBy_52 rfl (lv_at hl 0 rfl) ?_
            refine lv_bipush (v := 10) hx hb dX6_tenthsBy_53 (by decide) ?_
            refine lv_icmp_le (tgt := 63) hx hb dX6_tenthsBy_55 (by decide) (fun c_55 => ?_) (fun c_55 => ?_)
            · refine lv_iload_n hx hb dX6_tenthsBy_63 rfl (lv_at hl 0 rfl) ?_
              exact W.iret (v := 3) hx hb hr (fun t ht hW => ⟨3, rfl, (by unfold tb; grind), ht⟩) (fun q h => by cases h) dX6_tenthsBy_64
            · exact absurd c_55 (by decide)
          · exact absurd c_45 (by decide)
      · refine lv_iload_n hx hb dX6_tenthsBy_28 rfl (lv_at hl 1 rfl) ?_
        refine lv_iconst (v := 4) hx hb dX6_tenthsBy_29 (by decide) ?_
        refine lv_icmp_ne (tgt := 44) hx hb dX6_tenthsBy_30 (by decide) (fun c_30 => ?_) (fun c_30 => ?_)
        · refine lv_iload_n hx hb dX6_tenthsBy_44 rfl (lv_at hl 0 rfl) ?_
          refine lv_if_ge (tgt := 52) hx hb dX6_tenthsBy_45 (by decide) (fun c_45 => ?_) (fun c_45 => ?_)
          · refine lv_iload_n hx hb dX6_tenthsBy_52 rfl (lv_at hl 0 rfl) ?_
            refine lv_bipush (v := 10) hx hb dX6_tenthsBy_53 (by decide) ?_
            refine lv_icmp_le (tgt := 63) hx hb dX6_tenthsBy_55 (by decide) (fun c_55 => ?_) (fun c_55 => ?_)
            · refine lv_iload_n hx hb dX6_tenthsBy_63 rfl (lv_at hl 0 rfl) ?_
              exact W.iret (v := ((fa0 + 5) - hd0) - hd0) hx hb hr (fun t ht hW => ⟨(((fa0 + 5) - hd0) - hd0), rfl, (by unfold tb; grind), ht⟩) (fun q h => by cases h) dX6_tenthsBy_64
            · refine lv_bipush (v := 10) hx hb dX6_tenthsBy_58 (by decide) ?_
              refine lv_goto (tgt := 64) hx hb dX6_tenthsBy_60 (by decide) ?_
              exact W.iret (v := 10) hx hb hr (fun t ht hW => ⟨10, rfl, (by unfold tb; grind), ht⟩) (fun q h => by cases h) dX6_tenthsBy_64
          · refine lv_iconst (v := 0) hx hb dX6_tenthsBy_48 (by decide) ?_
            refine lv_goto (tgt := 64) hx hb dX6_tenthsBy_49 (by decide) ?_
            exact W.iret (v := 0) hx hb hr (fun t ht hW => ⟨0, rfl, (by unfold tb; grind), ht⟩) (fun q h => by cases h) dX6_tenthsBy_64
        · refine lv_iload_n hx hb dX6_tenthsBy_33 rfl (lv_at hl 0 rfl) ?_
          refine lv_iconst (v := 3) hx hb dX6_tenthsBy_34 (by decide) ?_
          refine lv_icmp_ge (tgt := 42) hx hb dX6_tenthsBy_35 (by decide) (fun c_35 => ?_) (fun c_35 => ?_)
          · refine lv_iload_n hx hb dX6_tenthsBy_42 rfl (lv_at hl 0 rfl) ?_
            refine lv_istore_n (lv' := [(3, .int (((fa0 + 5) - hd0) - hd0)), (0, .int kd0), (1, .int fa0), (2, .int hd0)]) hx hb dX6_tenthsBy_43 rfl hl (by decide) rfl (fun ls hl => ?_)
            refine lv_iload_n hx hb dX6_tenthsBy_44 rfl (lv_at hl 0 rfl) ?_
            refine lv_if_ge (tgt := 52) hx hb dX6_tenthsBy_45 (by decide) (fun c_45 => ?_) (fun c_45 => ?_)
            · refine lv_iload_n hx hb dX6_tenthsBy_52 rfl (lv_at hl 0 rfl) ?_
              refine lv_bipush (v := 10) hx hb dX6_tenthsBy_53 (by decide) ?_
              refine lv_icmp_le (tgt := 63) hx hb dX6_tenthsBy_55 (by decide) (fun c_55 => ?_) (fun c_55 => ?_)
              · refine lv_iload_n hx hb dX6_tenthsBy_63 rfl (lv_at hl 0 rfl) ?_
                exact W.iret (v := ((fa0 + 5) - hd0) - hd0) hx hb hr (fun t ht hW => ⟨(((fa0 + 5) - hd0) - hd0), rfl, (by unfold tb; grind), ht⟩) (fun q h => by cases h) dX6_tenthsBy_64
              · refine lv_bipush (v := 10) hx hb dX6_tenthsBy_58 (by decide) ?_
                refine lv_goto (tgt := 64) hx hb dX6_tenthsBy_60 (by decide) ?_
                exact W.iret (v := 10) hx hb hr (fun t ht hW => ⟨10, rfl, (by unfold tb; grind), ht⟩) (fun q h => by cases h) dX6_tenthsBy_64
            · refine lv_iconst (v := 0) hx hb dX6_tenthsBy_48 (by decide) ?_
              refine lv_goto (tgt := 64) hx hb dX6_tenthsBy_49 (by decide) ?_
              exact W.iret (v := 0) hx hb hr (fun t ht hW => ⟨0, rfl, (by unfold tb; grind), ht⟩) (fun q h => by cases h) dX6_tenthsBy_64
          · refine lv_iconst (v := 3) hx hb dX6_tenthsBy_38 (by decide) ?_
            refine lv_goto (tgt := 43) hx hb dX6_tenthsBy_39 (by decide) ?_
            refine lv_istore_n (lv' := [(3, .int 3), (0, .int kd0), (1, .int fa0), (2, .int hd0)]) hx hb dX6_tenthsBy_43 rfl hl (by decide) rfl (fun ls hl => ?_)
            refine lv_iload_n hx hb dX6_tenthsBy_44 rfl (lv_at hl 0 rfl) ?_
            refine lv_if_ge (tgt := 52) hx hb dX6_tenthsBy_45 (by decide) (fun c_45 => ?_) (fun c_45 => ?_)
            · refine lv_iload_n hx hb dX6_tenthsBy_52 rfl (lv_at hl 0 rfl) ?_
              refine lv_bipush (v := 10) hx hb dX6_tenthsBy_53 (by decide) ?_
              refine lv_icmp_le (tgt := 63) hx hb dX6_tenthsBy_55 (by decide) (fun c_55 => ?_) (fun c_55 => ?_)
              · refine lv_iload_n hx hb dX6_tenthsBy_63 rfl (lv_at hl 0 rfl) ?_
                exact W.iret (v := 3) hx hb hr (fun t ht hW => ⟨3, rfl, (by unfold tb; grind), ht⟩) (fun q h => by cases h) dX6_tenthsBy_64
              · exact absurd c_55 (by decide)
            · exact absurd c_45 (by decide)
  · refine lv_iinc (v := ((fa0 + 5) - hd0) + 2) (lv' := [(3, .int (((fa0 + 5) - hd0) + 2)), (0, .int kd0), (1, .int fa0), (2, .int hd0)]) hx hb dX6_tenthsBy_11 hl (k := 0) rfl rfl (by decide) rfl (fun ls hl => ?_)
    refine lv_iload_n hx hb dX6_tenthsBy_14 rfl (lv_at hl 1 rfl) ?_
    refine lv_iconst (v := 3) hx hb dX6_tenthsBy_15 (by decide) ?_
    refine lv_icmp_ne (tgt := 23) hx hb dX6_tenthsBy_16 (by decide) (fun c_16 => ?_) (fun c_16 => ?_)
    · refine lv_iload_n hx hb dX6_tenthsBy_23 rfl (lv_at hl 1 rfl) ?_
      refine lv_iconst (v := 1) hx hb dX6_tenthsBy_24 (by decide) ?_
      refine lv_icmp_eq (tgt := 33) hx hb dX6_tenthsBy_25 (by decide) (fun c_25 => ?_) (fun c_25 => ?_)
      · refine lv_iload_n hx hb dX6_tenthsBy_33 rfl (lv_at hl 0 rfl) ?_
        refine lv_iconst (v := 3) hx hb dX6_tenthsBy_34 (by decide) ?_
        refine lv_icmp_ge (tgt := 42) hx hb dX6_tenthsBy_35 (by decide) (fun c_35 => ?_) (fun c_35 => ?_)
        · refine lv_iload_n hx hb dX6_tenthsBy_42 rfl (lv_at hl 0 rfl) ?_
          refine lv_istore_n (lv' := [(3, .int (((fa0 + 5) - hd0) + 2)), (0, .int kd0), (1, .int fa0), (2, .int hd0)]) hx hb dX6_tenthsBy_43 rfl hl (by decide) rfl (fun ls hl => ?_)
          refine lv_iload_n hx hb dX6_tenthsBy_44 rfl (lv_at hl 0 rfl) ?_
          refine lv_if_ge (tgt := 52) hx hb dX6_tenthsBy_45 (by decide) (fun c_45 => ?_) (fun c_45 => ?_)
          · refine lv_iload_n hx hb dX6_tenthsBy_52 rfl (lv_at hl 0 rfl) ?_
            refine lv_bipush (v := 10) hx hb dX6_tenthsBy_53 (by decide) ?_
            refine lv_icmp_le (tgt := 63) hx hb dX6_tenthsBy_55 (by decide) (fun c_55 => ?_) (fun c_55 => ?_)
            · refine lv_iload_n hx hb dX6_tenthsBy_63 rfl (lv_at hl 0 rfl) ?_
              exact W.iret (v := ((fa0 + 5) - hd0) + 2) hx hb hr (fun t ht hW => ⟨(((fa0 + 5) - hd0) + 2), rfl, (by unfold tb; grind), ht⟩) (fun q h => by cases h) dX6_tenthsBy_64
            · refine lv_bipush (v := 10) hx hb dX6_tenthsBy_58 (by decide) ?_
              refine lv_goto (tgt := 64) hx hb dX6_tenthsBy_60 (by decide) ?_
              exact W.iret (v := 10) hx hb hr (fun t ht hW => ⟨10, rfl, (by unfold tb; grind), ht⟩) (fun q h => by cases h) dX6_tenthsBy_64
          · refine lv_iconst (v := 0) hx hb dX6_tenthsBy_48 (by decide) ?_
            refine lv_goto (tgt := 64) hx hb dX6_tenthsBy_49 (by decide) ?_
            exact W.iret (v := 0) hx hb hr (fun t ht hW => ⟨0, rfl, (by unfold tb; grind), ht⟩) (fun q h => by cases h) dX6_tenthsBy_64
        · refine lv_iconst (v := 3) hx hb dX6_tenthsBy_38 (by decide) ?_
          refine lv_goto (tgt := 43) hx hb dX6_tenthsBy_39 (by decide) ?_
          refine lv_istore_n (lv' := [(3, .int 3), (0, .int kd0), (1, .int fa0), (2, .int hd0)]) hx hb dX6_tenthsBy_43 rfl hl (by decide) rfl (fun ls hl => ?_)
          refine lv_iload_n hx hb dX6_tenthsBy_44 rfl (lv_at hl 0 rfl) ?_
          refine lv_if_ge (tgt := 52) hx hb dX6_tenthsBy_45 (by decide) (fun c_45 => ?_) (fun c_45 => ?_)
          · refine lv_iload_n hx hb dX6_tenthsBy_52 rfl (lv_at hl 0 rfl) ?_
            refine lv_bipush (v := 10) hx hb dX6_tenthsBy_53 (by decide) ?_
            refine lv_icmp_le (tgt := 63) hx hb dX6_tenthsBy_55 (by decide) (fun c_55 => ?_) (fun c_55 => ?_)
            · refine lv_iload_n hx hb dX6_tenthsBy_63 rfl (lv_at hl 0 rfl) ?_
              exact W.iret (v := 3) hx hb hr (fun t ht hW => ⟨3, rfl, (by unfold tb; grind), ht⟩) (fun q h => by cases h) dX6_tenthsBy_64
            · exact absurd c_55 (by decide)
          · exact absurd c_45 (by decide)
      · refine lv_iload_n hx hb dX6_tenthsBy_28 rfl (lv_at hl 1 rfl) ?_
        refine lv_iconst (v := 4) hx hb dX6_tenthsBy_29 (by decide) ?_
        refine lv_icmp_ne (tgt := 44) hx hb dX6_tenthsBy_30 (by decide) (fun c_30 => ?_) (fun c_30 => ?_)
        · refine lv_iload_n hx hb dX6_tenthsBy_44 rfl (lv_at hl 0 rfl) ?_
          refine lv_if_ge (tgt := 52) hx hb dX6_tenthsBy_45 (by decide) (fun c_45 => ?_) (fun c_45 => ?_)
          · refine lv_iload_n hx hb dX6_tenthsBy_52 rfl (lv_at hl 0 rfl) ?_
            refine lv_bipush (v := 10) hx hb dX6_tenthsBy_53 (by decide) ?_
            refine lv_icmp_le (tgt := 63) hx hb dX6_tenthsBy_55 (by decide) (fun c_55 => ?_) (fun c_55 => ?_)
            · refine lv_iload_n hx hb dX6_tenthsBy_63 rfl (lv_at hl 0 rfl) ?_
              exact W.iret (v := ((fa0 + 5) - hd0) + 2) hx hb hr (fun t ht hW => ⟨(((fa0 + 5) - hd0) + 2), rfl, (by unfold tb; grind), ht⟩) (fun q h => by cases h) dX6_tenthsBy_64
            · refine lv_bipush (v := 10) hx hb dX6_tenthsBy_58 (by decide) ?_
              refine lv_goto (tgt := 64) hx hb dX6_tenthsBy_60 (by decide) ?_
              exact W.iret (v := 10) hx hb hr (fun t ht hW => ⟨10, rfl, (by unfold tb; grind), ht⟩) (fun q h => by cases h) dX6_tenthsBy_64
          · refine lv_iconst (v := 0) hx hb dX6_tenthsBy_48 (by decide) ?_
            refine lv_goto (tgt := 64) hx hb dX6_tenthsBy_49 (by decide) ?_
            exact W.iret (v := 0) hx hb hr (fun t ht hW => ⟨0, rfl, (by unfold tb; grind), ht⟩) (fun q h => by cases h) dX6_tenthsBy_64
        · refine lv_iload_n hx hb dX6_tenthsBy_33 rfl (lv_at hl 0 rfl) ?_
          refine lv_iconst (v := 3) hx hb dX6_tenthsBy_34 (by decide) ?_
          refine lv_icmp_ge (tgt := 42) hx hb dX6_tenthsBy_35 (by decide) (fun c_35 => ?_) (fun c_35 => ?_)
          · refine lv_iload_n hx hb dX6_tenthsBy_42 rfl (lv_at hl 0 rfl) ?_
            refine lv_istore_n (lv' := [(3, .int (((fa0 + 5) - hd0) + 2)), (0, .int kd0), (1, .int fa0), (2, .int hd0)]) hx hb dX6_tenthsBy_43 rfl hl (by decide) rfl (fun ls hl => ?_)
            refine lv_iload_n hx hb dX6_tenthsBy_44 rfl (lv_at hl 0 rfl) ?_
            refine lv_if_ge (tgt := 52) hx hb dX6_tenthsBy_45 (by decide) (fun c_45 => ?_) (fun c_45 => ?_)
            · refine lv_iload_n hx hb dX6_tenthsBy_52 rfl (lv_at hl 0 rfl) ?_
              refine lv_bipush (v := 10) hx hb dX6_tenthsBy_53 (by decide) ?_
              refine lv_icmp_le (tgt := 63) hx hb dX6_tenthsBy_55 (by decide) (fun c_55 => ?_) (fun c_55 => ?_)
              · refine lv_iload_n hx hb dX6_tenthsBy_63 rfl (lv_at hl 0 rfl) ?_
                exact W.iret (v := ((fa0 + 5) - hd0) + 2) hx hb hr (fun t ht hW => ⟨(((fa0 + 5) - hd0) + 2), rfl, (by unfold tb; grind), ht⟩) (fun q h => by cases h) dX6_tenthsBy_64
              · refine lv_bipush (v := 10) hx hb dX6_tenthsBy_58 (by decide) ?_
                refine lv_goto (tgt := 64) hx hb dX6_tenthsBy_60 (by decide) ?_
                exact W.iret (v := 10) hx hb hr (fun t ht hW => ⟨10, rfl, (by unfold tb; grind), ht⟩) (fun q h => by cases h) dX6_tenthsBy_64
            · refine lv_iconst (v := 0) hx hb dX6_tenthsBy_48 (by decide) ?_
              refine lv_goto (tgt := 64) hx hb dX6_tenthsBy_49 (by decide) ?_
              exact W.iret (v := 0) hx hb hr (fun t ht hW => ⟨0, rfl, (by unfold tb; grind), ht⟩) (fun q h => by cases h) dX6_tenthsBy_64
          · refine lv_iconst (v := 3) hx hb dX6_tenthsBy_38 (by decide) ?_
            refine lv_goto (tgt := 43) hx hb dX6_tenthsBy_39 (by decide) ?_
            refine lv_istore_n (lv' := [(3, .int 3), (0, .int kd0), (1, .int fa0), (2, .int hd0)]) hx hb dX6_tenthsBy_43 rfl hl (by decide) rfl (fun ls hl => ?_)
            refine lv_iload_n hx hb dX6_tenthsBy_44 rfl (lv_at hl 0 rfl) ?_
            refine lv_if_ge (tgt := 52) hx hb dX6_tenthsBy_45 (by decide) (fun c_45 => ?_) (fun c_45 => ?_)
            · refine lv_iload_n hx hb dX6_tenthsBy_52 rfl (lv_at hl 0 rfl) ?_
              refine lv_bipush (v := 10) hx hb dX6_tenthsBy_53 (by decide) ?_
              refine lv_icmp_le (tgt := 63) hx hb dX6_tenthsBy_55 (by decide) (fun c_55 => ?_) (fun c_55 => ?_)
              · refine lv_iload_n hx hb dX6_tenthsBy_63 rfl (lv_at hl 0 rfl) ?_
                exact W.iret (v := 3) hx hb hr (fun t ht hW => ⟨3, rfl, (by unfold tb; grind), ht⟩) (fun q h => by cases h) dX6_tenthsBy_64
              · exact absurd c_55 (by decide)
            · exact absurd c_45 (by decide)
    · refine lv_iload_n hx hb dX6_tenthsBy_19 rfl (lv_at hl 0 rfl) ?_
      refine lv_iload_n hx hb dX6_tenthsBy_20 rfl (lv_at hl 3 rfl) ?_
      refine lv_isub hx hb dX6_tenthsBy_21 ?_
      refine lv_istore_n (lv' := [(3, .int ((((fa0 + 5) - hd0) + 2) - hd0)), (0, .int kd0), (1, .int fa0), (2, .int hd0)]) hx hb dX6_tenthsBy_22 rfl hl (by decide) rfl (fun ls hl => ?_)
      refine lv_iload_n hx hb dX6_tenthsBy_23 rfl (lv_at hl 1 rfl) ?_
      refine lv_iconst (v := 1) hx hb dX6_tenthsBy_24 (by decide) ?_
      refine lv_icmp_eq (tgt := 33) hx hb dX6_tenthsBy_25 (by decide) (fun c_25 => ?_) (fun c_25 => ?_)
      · refine lv_iload_n hx hb dX6_tenthsBy_33 rfl (lv_at hl 0 rfl) ?_
        refine lv_iconst (v := 3) hx hb dX6_tenthsBy_34 (by decide) ?_
        refine lv_icmp_ge (tgt := 42) hx hb dX6_tenthsBy_35 (by decide) (fun c_35 => ?_) (fun c_35 => ?_)
        · refine lv_iload_n hx hb dX6_tenthsBy_42 rfl (lv_at hl 0 rfl) ?_
          refine lv_istore_n (lv' := [(3, .int ((((fa0 + 5) - hd0) + 2) - hd0)), (0, .int kd0), (1, .int fa0), (2, .int hd0)]) hx hb dX6_tenthsBy_43 rfl hl (by decide) rfl (fun ls hl => ?_)
          refine lv_iload_n hx hb dX6_tenthsBy_44 rfl (lv_at hl 0 rfl) ?_
          refine lv_if_ge (tgt := 52) hx hb dX6_tenthsBy_45 (by decide) (fun c_45 => ?_) (fun c_45 => ?_)
          · refine lv_iload_n hx hb dX6_tenthsBy_52 rfl (lv_at hl 0 rfl) ?_
            refine lv_bipush (v := 10) hx hb dX6_tenthsBy_53 (by decide) ?_
            refine lv_icmp_le (tgt := 63) hx hb dX6_tenthsBy_55 (by decide) (fun c_55 => ?_) (fun c_55 => ?_)
            · refine lv_iload_n hx hb dX6_tenthsBy_63 rfl (lv_at hl 0 rfl) ?_
              exact W.iret (v := (((fa0 + 5) - hd0) + 2) - hd0) hx hb hr (fun t ht hW => ⟨((((fa0 + 5) - hd0) + 2) - hd0), rfl, (by unfold tb; grind), ht⟩) (fun q h => by cases h) dX6_tenthsBy_64
            · refine lv_bipush (v := 10) hx hb dX6_tenthsBy_58 (by decide) ?_
              refine lv_goto (tgt := 64) hx hb dX6_tenthsBy_60 (by decide) ?_
              exact W.iret (v := 10) hx hb hr (fun t ht hW => ⟨10, rfl, (by unfold tb; grind), ht⟩) (fun q h => by cases h) dX6_tenthsBy_64
          · refine lv_iconst (v := 0) hx hb dX6_tenthsBy_48 (by decide) ?_
            refine lv_goto (tgt := 64) hx hb dX6_tenthsBy_49 (by decide) ?_
            exact W.iret (v := 0) hx hb hr (fun t ht hW => ⟨0, rfl, (by unfold tb; grind), ht⟩) (fun q h => by cases h) dX6_tenthsBy_64
        · refine lv_iconst (v := 3) hx hb dX6_tenthsBy_38 (by decide) ?_
          refine lv_goto (tgt := 43) hx hb dX6_tenthsBy_39 (by decide) ?_
          refine lv_istore_n (lv' := [(3, .int 3), (0, .int kd0), (1, .int fa0), (2, .int hd0)]) hx hb dX6_tenthsBy_43 rfl hl (by decide) rfl (fun ls hl => ?_)
          refine lv_iload_n hx hb dX6_tenthsBy_44 rfl (lv_at hl 0 rfl) ?_
          refine lv_if_ge (tgt := 52) hx hb dX6_tenthsBy_45 (by decide) (fun c_45 => ?_) (fun c_45 => ?_)
          · refine lv_iload_n hx hb dX6_tenthsBy_52 rfl (lv_at hl 0 rfl) ?_
            refine lv_bipush (v := 10) hx hb dX6_tenthsBy_53 (by decide) ?_
            refine lv_icmp_le (tgt := 63) hx hb dX6_tenthsBy_55 (by decide) (fun c_55 => ?_) (fun c_55 => ?_)
            · refine lv_iload_n hx hb dX6_tenthsBy_63 rfl (lv_at hl 0 rfl) ?_
              exact W.iret (v := 3) hx hb hr (fun t ht hW => ⟨3, rfl, (by unfold tb; grind), ht⟩) (fun q h => by cases h) dX6_tenthsBy_64
            · exact absurd c_55 (by decide)
          · exact absurd c_45 (by decide)
      · refine lv_iload_n hx hb dX6_tenthsBy_28 rfl (lv_at hl 1 rfl) ?_
        refine lv_iconst (v := 4) hx hb dX6_tenthsBy_29 (by decide) ?_
        refine lv_icmp_ne (tgt := 44) hx hb dX6_tenthsBy_30 (by decide) (fun c_30 => ?_) (fun c_30 => ?_)
        · refine lv_iload_n hx hb dX6_tenthsBy_44 rfl (lv_at hl 0 rfl) ?_
          refine lv_if_ge (tgt := 52) hx hb dX6_tenthsBy_45 (by decide) (fun c_45 => ?_) (fun c_45 => ?_)
          · refine lv_iload_n hx hb dX6_tenthsBy_52 rfl (lv_at hl 0 rfl) ?_
            refine lv_bipush (v := 10) hx hb dX6_tenthsBy_53 (by decide) ?_
            refine lv_icmp_le (tgt := 63) hx hb dX6_tenthsBy_55 (by decide) (fun c_55 => ?_) (fun c_55 => ?_)
            · refine lv_iload_n hx hb dX6_tenthsBy_63 rfl (lv_at hl 0 rfl) ?_
              exact W.iret (v := (((fa0 + 5) - hd0) + 2) - hd0) hx hb hr (fun t ht hW => ⟨((((fa0 + 5) - hd0) + 2) - hd0), rfl, (by unfold tb; grind), ht⟩) (fun q h => by cases h) dX6_tenthsBy_64
            · refine lv_bipush (v := 10) hx hb dX6_tenthsBy_58 (by decide) ?_
              refine lv_goto (tgt := 64) hx hb dX6_tenthsBy_60 (by decide) ?_
              exact W.iret (v := 10) hx hb hr (fun t ht hW => ⟨10, rfl, (by unfold tb; grind), ht⟩) (fun q h => by cases h) dX6_tenthsBy_64
          · refine lv_iconst (v := 0) hx hb dX6_tenthsBy_48 (by decide) ?_
            refine lv_goto (tgt := 64) hx hb dX6_tenthsBy_49 (by decide) ?_
            exact W.iret (v := 0) hx hb hr (fun t ht hW => ⟨0, rfl, (by unfold tb; grind), ht⟩) (fun q h => by cases h) dX6_tenthsBy_64
        · refine lv_iload_n hx hb dX6_tenthsBy_33 rfl (lv_at hl 0 rfl) ?_
          refine lv_iconst (v := 3) hx hb dX6_tenthsBy_34 (by decide) ?_
          refine lv_icmp_ge (tgt := 42) hx hb dX6_tenthsBy_35 (by decide) (fun c_35 => ?_) (fun c_35 => ?_)
          · refine lv_iload_n hx hb dX6_tenthsBy_42 rfl (lv_at hl 0 rfl) ?_
            refine lv_istore_n (lv' := [(3, .int ((((fa0 + 5) - hd0) + 2) - hd0)), (0, .int kd0), (1, .int fa0), (2, .int hd0)]) hx hb dX6_tenthsBy_43 rfl hl (by decide) rfl (fun ls hl => ?_)
            refine lv_iload_n hx hb dX6_tenthsBy_44 rfl (lv_at hl 0 rfl) ?_
            refine lv_if_ge (tgt := 52) hx hb dX6_tenthsBy_45 (by decide) (fun c_45 => ?_) (fun c_45 => ?_)
            · refine lv_iload_n hx hb dX6_tenthsBy_52 rfl (lv_at hl 0 rfl) ?_
              refine lv_bipush (v := 10) hx hb dX6_tenthsBy_53 (by decide) ?_
              refine lv_icmp_le (tgt := 63) hx hb dX6_tenthsBy_55 (by decide) (fun c_55 => ?_) (fun c_55 => ?_)
              · refine lv_iload_n hx hb dX6_tenthsBy_63 rfl (lv_at hl 0 rfl) ?_
                exact W.iret (v := (((fa0 + 5) - hd0) + 2) - hd0) hx hb hr (fun t ht hW => ⟨((((fa0 + 5) - hd0) + 2) - hd0), rfl, (by unfold tb; grind), ht⟩) (fun q h => by cases h) dX6_tenthsBy_64
              · refine lv_bipush (v := 10) hx hb dX6_tenthsBy_58 (by decide) ?_
                refine lv_goto (tgt := 64) hx hb dX6_tenthsBy_60 (by decide) ?_
                exact W.iret (v := 10) hx hb hr (fun t ht hW => ⟨10, rfl, (by unfold tb; grind), ht⟩) (fun q h => by cases h) dX6_tenthsBy_64
            · refine lv_iconst (v := 0) hx hb dX6_tenthsBy_48 (by decide) ?_
              refine lv_goto (tgt := 64) hx hb dX6_tenthsBy_49 (by decide) ?_
              exact W.iret (v := 0) hx hb hr (fun t ht hW => ⟨0, rfl, (by unfold tb; grind), ht⟩) (fun q h => by cases h) dX6_tenthsBy_64
          · refine lv_iconst (v := 3) hx hb dX6_tenthsBy_38 (by decide) ?_
            refine lv_goto (tgt := 43) hx hb dX6_tenthsBy_39 (by decide) ?_
            refine lv_istore_n (lv' := [(3, .int 3), (0, .int kd0), (1, .int fa0), (2, .int hd0)]) hx hb dX6_tenthsBy_43 rfl hl (by decide) rfl (fun ls hl => ?_)
            refine lv_iload_n hx hb dX6_tenthsBy_44 rfl (lv_at hl 0 rfl) ?_
            refine lv_if_ge (tgt := 52) hx hb dX6_tenthsBy_45 (by decide) (fun c_45 => ?_) (fun c_45 => ?_)
            · refine lv_iload_n hx hb dX6_tenthsBy_52 rfl (lv_at hl 0 rfl) ?_
              refine lv_bipush (v := 10) hx hb dX6_tenthsBy_53 (by decide) ?_
              refine lv_icmp_le (tgt := 63) hx hb dX6_tenthsBy_55 (by decide) (fun c_55 => ?_) (fun c_55 => ?_)
              · refine lv_iload_n hx hb dX6_tenthsBy_63 rfl (lv_at hl 0 rfl) ?_
                exact W.iret (v := 3) hx hb hr (fun t ht hW => ⟨3, rfl, (by unfold tb; grind), ht⟩) (fun q h => by cases h) dX6_tenthsBy_64
              · exact absurd c_55 (by decide)
            · exact absurd c_45 (by decide)

set_option maxHeartbeats 4000000 in
set_option maxRecDepth 100000 in
theorem c_X6_lacks (l : Launch) (D : va_G) (cI cZ cA : ClassId) (mo : Nat) (apg : Nat) (P : Nat) (ea : Int32) (K : Nat) (Hn : Nat) (ym : Int32) (tm : Int32) (arw : Nat) (ans : Nat) (aro : Nat) (abo : Nat) (Sm : Nat) (asi : Nat) (sd : Int32) (asv : Nat) (kt : Int32) (ky : Int32) (ks : Nat) (akr : Nat) (akn : Nat) (aks : Nat) (ha : Int64) (hH : Hn ≤ 5) : Met l yX6_lacks wsX6_lacks (zr 1) (va_Pc [.ref mo] (zPr D cI cZ cA [(mo, .inr (6, [.ref apg, .int (nI P), .int ea, .int (nI K), .int (nI Hn), .int ym, .int tm, .ref arw, .ref ans, .ref aro, .ref abo, .int (nI Sm), .ref asi, .int sd, .ref asv, .int kt, .int ky, .int (nI ks), .ref akr, .ref akn, .ref aks, .long ha]))])) (vp_Si (fun r => r = zb (Hn = 0))) 0 0 (fun _ => False) := by
  refine Met.ofW (cc := cX6_lacks) (maxL := 1) (ret := (some .boolean)) (by decide) rfl ?_
  intro p e s m args below meth c s₁ B hml hv
  obtain ⟨rfl, hP, hE⟩ := hv
  have hx := B.exec
  have hb := B.bytes
  have hr := B.returns
  have hts := atoms_spec (ws := wsX6_lacks) B.pre
  have hown : s.vm.findClass RX6 = some m.cls := findClass_of_methodNamed B.named
  have hlocks := B.notSynchronized
  have hP : va_P D vwCl [(mo, .inr (6, [.ref apg, .int (nI P), .int ea, .int (nI K), .int (nI Hn), .int ym, .int tm, .ref arw, .ref ans, .ref aro, .ref abo, .int (nI Sm), .ref asi, .int sd, .ref asv, .int kt, .int ky, .int (nI ks), .ref akr, .ref akn, .ref aks, .long ha]))] s.heap := hP
  have hl := lv_entry ([.ref mo]) (n := 1) (Nat.le_of_ble_eq_true rfl)
  rw [lg_entry_eq]
  generalize (lg_sl ([.ref mo]) ++ List.replicate (1 - (lg_sl ([.ref mo])).length) Slot.unset).toArray = ls at hl ⊢
  have hl : lv_has ls 1 [(0, .ref mo)] := hl
  have hinX6 : ∀ w ∈ wsX60, w ∈ wsX6_lacks := fun w h => List.mem_cons_of_mem _ (List.mem_append_right _ h)
  have k_0 := hts (.fieldLink RX6 75 "VowDovesModel" "holes" "I") (by decide +kernel)
  refine lv_aload_n hx hb dX6_lacks_0 rfl (lv_at hl 0 rfl) ?_
  refine va_get (D := D) (ci := 6) (v := .int (nI Hn)) (C := RX6) (T := TX6) (N := 22) hx hb hts hinX6 hown hE.1 hP 0 rfl rfl 4 (by decide) k_0 (fun _ h9 => h9) rfl dX6_lacks_1 ?_
  refine lv_if_ne (tgt := 11) hx hb dX6_lacks_4 (by decide) (fun c_4 => ?_) (fun c_4 => ?_)
  · have n_4 := zn_ne (a := Hn) (b := 0) rfl rfl c_4 (by omega) (by omega)
    refine lv_iconst (v := 0) hx hb dX6_lacks_11 (by decide) ?_
    exact W.zret (v := 0) hx hb hr rfl (fun t ht hW => ⟨0, rfl, (by unfold zb; grind), ht⟩) (fun q h => by cases h) dX6_lacks_12
  · have n_4 := zn_eq (a := Hn) (b := 0) rfl rfl c_4 (by omega) (by omega)
    refine lv_iconst (v := 1) hx hb dX6_lacks_7 (by decide) ?_
    refine lv_goto (tgt := 12) hx hb dX6_lacks_8 (by decide) ?_
    exact W.zret (v := 1) hx hb hr rfl (fun t ht hW => ⟨1, rfl, (by unfold zb; grind), ht⟩) (fun q h => by cases h) dX6_lacks_12

set_option maxHeartbeats 4000000 in
set_option maxRecDepth 100000 in
theorem c_X6_isKeeper (l : Launch) (D : va_G) (cI cZ cA : ClassId) (mo : Nat) (apg : Nat) (P : Nat) (ea : Int32) (K : Nat) (Hn : Nat) (ym : Int32) (tm : Int32) (arw : Nat) (ans : Nat) (aro : Nat) (abo : Nat) (Sm : Nat) (asi : Nat) (sd : Int32) (asv : Nat) (kt : Int32) (ky : Int32) (ks : Nat) (akr : Nat) (akn : Nat) (aks : Nat) (ha : Int64) (k : Int32) (hK : K ≤ 5) : Met l yX6_isKeeper wsX6_isKeeper (zr 2) (va_Pc [.ref mo, .int k] (zPr D cI cZ cA [(mo, .inr (6, [.ref apg, .int (nI P), .int ea, .int (nI K), .int (nI Hn), .int ym, .int tm, .ref arw, .ref ans, .ref aro, .ref abo, .int (nI Sm), .ref asi, .int sd, .ref asv, .int kt, .int ky, .int (nI ks), .ref akr, .ref akn, .ref aks, .long ha]))])) (vp_Si (fun r => r = zb (¬ k < 0 ∧ k < nI K))) 0 0 (fun _ => False) := by
  refine Met.ofW (cc := cX6_isKeeper) (maxL := 2) (ret := (some .boolean)) (by decide) rfl ?_
  intro p e s m args below meth c s₁ B hml hv
  obtain ⟨rfl, hP, hE⟩ := hv
  have hx := B.exec
  have hb := B.bytes
  have hr := B.returns
  have hts := atoms_spec (ws := wsX6_isKeeper) B.pre
  have hown : s.vm.findClass RX6 = some m.cls := findClass_of_methodNamed B.named
  have hlocks := B.notSynchronized
  have hP : va_P D vwCl [(mo, .inr (6, [.ref apg, .int (nI P), .int ea, .int (nI K), .int (nI Hn), .int ym, .int tm, .ref arw, .ref ans, .ref aro, .ref abo, .int (nI Sm), .ref asi, .int sd, .ref asv, .int kt, .int ky, .int (nI ks), .ref akr, .ref akn, .ref aks, .long ha]))] s.heap := hP
  have hl := lv_entry ([.ref mo, .int k]) (n := 2) (Nat.le_of_ble_eq_true rfl)
  rw [lg_entry_eq]
  generalize (lg_sl ([.ref mo, .int k]) ++ List.replicate (2 - (lg_sl ([.ref mo, .int k])).length) Slot.unset).toArray = ls at hl ⊢
  have hl : lv_has ls 2 [(0, .ref mo), (1, .int k)] := hl
  have hinX6 : ∀ w ∈ wsX60, w ∈ wsX6_isKeeper := fun w h => List.mem_cons_of_mem _ (List.mem_append_right _ h)
  have k_0 := hts (.fieldLink RX6 72 "VowDovesModel" "keepers" "I") (by decide +kernel)
  refine lv_iload_n hx hb dX6_isKeeper_0 rfl (lv_at hl 1 rfl) ?_
  refine lv_i2l (v := (k : Int32).toInt64) hx hb dX6_isKeeper_1 rfl ?_
  refine lv_lconst (v := 0) hx hb dX6_isKeeper_2 (by decide) ?_
  refine lv_aload_n hx hb dX6_isKeeper_3 rfl (lv_at hl 0 rfl) ?_
  refine va_get (D := D) (ci := 6) (v := .int (nI K)) (C := RX6) (T := TX6) (N := 22) hx hb hts hinX6 hown hE.1 hP 0 rfl rfl 3 (by decide) k_0 (fun _ h9 => h9) rfl dX6_isKeeper_4 ?_
  refine lv_iconst (v := 1) hx hb dX6_isKeeper_7 (by decide) ?_
  refine lv_isub hx hb dX6_isKeeper_8 ?_
  refine lv_i2l (v := ((nI K) - 1 : Int32).toInt64) hx hb dX6_isKeeper_9 rfl ?_
  refine z_roSi (As := [.long ((k : Int32).toInt64), .long 0, .long (((nI K) - 1 : Int32).toInt64)]) (rest := []) ⟨hx, hb, hml, hown, hts⟩ (c_X6_in l D cI cZ cA ((k : Int32).toInt64) 0 (((nI K) - 1 : Int32).toInt64) ) (va_cwS 3 hts gX6_isKeeper_X6_in rfl rfl rfl (by decide +kernel) ⟨Nat.le_of_ble_eq_true rfl, Nat.le_of_ble_eq_true rfl⟩) hE hP [] rfl rfl hl.1 rfl (Nat.le_of_ble_eq_true rfl) dX6_isKeeper_10 ⟨Nat.zero_le _, Nat.zero_le _⟩ ?_
  exact W.zret (v := (zb (0 ≤ ((k : Int32).toInt64) ∧ ((k : Int32).toInt64) ≤ (((nI K) - 1 : Int32).toInt64)))) hx hb hr zb_nar (fun t ht hW => ⟨(zb (0 ≤ ((k : Int32).toInt64) ∧ ((k : Int32).toInt64) ≤ (((nI K) - 1 : Int32).toInt64))), rfl, (zb_c (zkeep (by omega))), ht⟩) (fun q h => by cases h) dX6_isKeeper_13

set_option maxHeartbeats 4000000 in
set_option maxRecDepth 100000 in
theorem c_X6_isHole (l : Launch) (D : va_G) (cI cZ cA : ClassId) (mo : Nat) (apg : Nat) (P : Nat) (ea : Int32) (K : Nat) (Hn : Nat) (ym : Int32) (tm : Int32) (arw : Nat) (ans : Nat) (aro : Nat) (abo : Nat) (Sm : Nat) (asi : Nat) (sd : Int32) (asv : Nat) (kt : Int32) (ky : Int32) (ks : Nat) (akr : Nat) (akn : Nat) (aks : Nat) (ha : Int64) (k : Int32) (hH : Hn ≤ 5) : Met l yX6_isHole wsX6_isHole (zr 2) (va_Pc [.ref mo, .int k] (zPr D cI cZ cA [(mo, .inr (6, [.ref apg, .int (nI P), .int ea, .int (nI K), .int (nI Hn), .int ym, .int tm, .ref arw, .ref ans, .ref aro, .ref abo, .int (nI Sm), .ref asi, .int sd, .ref asv, .int kt, .int ky, .int (nI ks), .ref akr, .ref akn, .ref aks, .long ha]))])) (vp_Si (fun r => r = zb (¬ k < 0 ∧ k < nI Hn))) 0 0 (fun _ => False) := by
  refine Met.ofW (cc := cX6_isHole) (maxL := 2) (ret := (some .boolean)) (by decide) rfl ?_
  intro p e s m args below meth c s₁ B hml hv
  obtain ⟨rfl, hP, hE⟩ := hv
  have hx := B.exec
  have hb := B.bytes
  have hr := B.returns
  have hts := atoms_spec (ws := wsX6_isHole) B.pre
  have hown : s.vm.findClass RX6 = some m.cls := findClass_of_methodNamed B.named
  have hlocks := B.notSynchronized
  have hP : va_P D vwCl [(mo, .inr (6, [.ref apg, .int (nI P), .int ea, .int (nI K), .int (nI Hn), .int ym, .int tm, .ref arw, .ref ans, .ref aro, .ref abo, .int (nI Sm), .ref asi, .int sd, .ref asv, .int kt, .int ky, .int (nI ks), .ref akr, .ref akn, .ref aks, .long ha]))] s.heap := hP
  have hl := lv_entry ([.ref mo, .int k]) (n := 2) (Nat.le_of_ble_eq_true rfl)
  rw [lg_entry_eq]
  generalize (lg_sl ([.ref mo, .int k]) ++ List.replicate (2 - (lg_sl ([.ref mo, .int k])).length) Slot.unset).toArray = ls at hl ⊢
  have hl : lv_has ls 2 [(0, .ref mo), (1, .int k)] := hl
  have hinX6 : ∀ w ∈ wsX60, w ∈ wsX6_isHole := fun w h => List.mem_cons_of_mem _ (List.mem_append_right _ h)
  have k_0 := hts (.fieldLink RX6 75 "VowDovesModel" "holes" "I") (by decide +kernel)
  refine lv_iload_n hx hb dX6_isHole_0 rfl (lv_at hl 1 rfl) ?_
  refine lv_i2l (v := (k : Int32).toInt64) hx hb dX6_isHole_1 rfl ?_
  refine lv_lconst (v := 0) hx hb dX6_isHole_2 (by decide) ?_
  refine lv_aload_n hx hb dX6_isHole_3 rfl (lv_at hl 0 rfl) ?_
  refine va_get (D := D) (ci := 6) (v := .int (nI Hn)) (C := RX6) (T := TX6) (N := 22) hx hb hts hinX6 hown hE.1 hP 0 rfl rfl 4 (by decide) k_0 (fun _ h9 => h9) rfl dX6_isHole_4 ?_
  refine lv_iconst (v := 1) hx hb dX6_isHole_7 (by decide) ?_
  refine lv_isub hx hb dX6_isHole_8 ?_
  refine lv_i2l (v := ((nI Hn) - 1 : Int32).toInt64) hx hb dX6_isHole_9 rfl ?_
  refine z_roSi (As := [.long ((k : Int32).toInt64), .long 0, .long (((nI Hn) - 1 : Int32).toInt64)]) (rest := []) ⟨hx, hb, hml, hown, hts⟩ (c_X6_in l D cI cZ cA ((k : Int32).toInt64) 0 (((nI Hn) - 1 : Int32).toInt64) ) (va_cwS 3 hts gX6_isHole_X6_in rfl rfl rfl (by decide +kernel) ⟨Nat.le_of_ble_eq_true rfl, Nat.le_of_ble_eq_true rfl⟩) hE hP [] rfl rfl hl.1 rfl (Nat.le_of_ble_eq_true rfl) dX6_isHole_10 ⟨Nat.zero_le _, Nat.zero_le _⟩ ?_
  exact W.zret (v := (zb (0 ≤ ((k : Int32).toInt64) ∧ ((k : Int32).toInt64) ≤ (((nI Hn) - 1 : Int32).toInt64)))) hx hb hr zb_nar (fun t ht hW => ⟨(zb (0 ≤ ((k : Int32).toInt64) ∧ ((k : Int32).toInt64) ≤ (((nI Hn) - 1 : Int32).toInt64))), rfl, (zb_c (zkeep (by omega))), ht⟩) (fun q h => by cases h) dX6_isHole_13

set_option maxHeartbeats 4000000 in
set_option maxRecDepth 100000 in
theorem c_X6_tenthsOf (l : Launch) (D : va_G) (cI cZ cA : ClassId) (mo : Nat) (apg : Nat) (P : Nat) (ea : Int32) (K : Nat) (Hn : Nat) (ym : Int32) (tm : Int32) (arw : Nat) (ans : Nat) (aro : Nat) (abo : Nat) (Sm : Nat) (asi : Nat) (sd : Int32) (asv : Nat) (kt : Int32) (ky : Int32) (ks : Nat) (akr : Nat) (akn : Nat) (aks : Nat) (ha : Int64) (rw : Nat → Int32) (k : Nat) (hd0 : Int32) (hk : k < 5) : Met l yX6_tenthsOf wsX6_tenthsOf (zr 2) (va_Pc [.ref mo, .int (nI k), .int hd0] (zPr D cI cZ cA [(mo, .inr (6, [.ref apg, .int (nI P), .int ea, .int (nI K), .int (nI Hn), .int ym, .int tm, .ref arw, .ref ans, .ref aro, .ref abo, .int (nI Sm), .ref asi, .int sd, .ref asv, .int kt, .int ky, .int (nI ks), .ref akr, .ref akn, .ref aks, .long ha])), (arw, .inl (cI, 15, .inl rw))])) (vp_Si (fun r => r = tb (rw (3 * k)) (rw (3 * k + 1)) hd0)) 0 0 (fun _ => False) := by
  refine Met.ofW (cc := cX6_tenthsOf) (maxL := 3) (ret := (some .int)) (by decide) rfl ?_
  intro p e s m args below meth c s₁ B hml hv
  obtain ⟨rfl, hP, hE⟩ := hv
  have hx := B.exec
  have hb := B.bytes
  have hr := B.returns
  have hts := atoms_spec (ws := wsX6_tenthsOf) B.pre
  have hown : s.vm.findClass RX6 = some m.cls := findClass_of_methodNamed B.named
  have hlocks := B.notSynchronized
  have hP : va_P D vwCl [(mo, .inr (6, [.ref apg, .int (nI P), .int ea, .int (nI K), .int (nI Hn), .int ym, .int tm, .ref arw, .ref ans, .ref aro, .ref abo, .int (nI Sm), .ref asi, .int sd, .ref asv, .int kt, .int ky, .int (nI ks), .ref akr, .ref akn, .ref aks, .long ha])), (arw, .inl (cI, 15, .inl rw))] s.heap := hP
  have hl := lv_entry ([.ref mo, .int (nI k), .int hd0]) (n := 3) (Nat.le_of_ble_eq_true rfl)
  rw [lg_entry_eq]
  generalize (lg_sl ([.ref mo, .int (nI k), .int hd0]) ++ List.replicate (3 - (lg_sl ([.ref mo, .int (nI k), .int hd0])).length) Slot.unset).toArray = ls at hl ⊢
  have hl : lv_has ls 3 [(0, .ref mo), (1, .int (nI k)), (2, .int hd0)] := hl
  have hinX6 : ∀ w ∈ wsX60, w ∈ wsX6_tenthsOf := fun w h => List.mem_cons_of_mem _ (List.mem_append_right _ h)
  have k_0 := hts (.fieldLink RX6 13 "VowDovesModel" "rows" "[I") (by decide +kernel)
  refine lv_aload_n hx hb dX6_tenthsOf_0 rfl (lv_at hl 0 rfl) ?_
  refine va_get (D := D) (ci := 6) (v := .ref arw) (C := RX6) (T := TX6) (N := 22) hx hb hts hinX6 hown hE.1 hP 0 rfl rfl 7 (by decide) k_0 (fun _ h9 => h9) rfl dX6_tenthsOf_1 ?_
  refine lv_iconst (v := 3) hx hb dX6_tenthsOf_4 (by decide) ?_
  refine lv_iload_n hx hb dX6_tenthsOf_5 rfl (lv_at hl 1 rfl) ?_
  refine z_imulN hx hb (a := 3) (b := k) rfl rfl dX6_tenthsOf_6 ?_
  refine z_iald hx hb hE hP 1 rfl (j := 3 * k) rfl (by omega) (by decide) dX6_tenthsOf_7 ?_
  refine lv_aload_n hx hb dX6_tenthsOf_8 rfl (lv_at hl 0 rfl) ?_
  refine va_get (D := D) (ci := 6) (v := .ref arw) (C := RX6) (T := TX6) (N := 22) hx hb hts hinX6 hown hE.1 hP 0 rfl rfl 7 (by decide) k_0 (fun _ h9 => h9) rfl dX6_tenthsOf_9 ?_
  refine lv_iconst (v := 3) hx hb dX6_tenthsOf_12 (by decide) ?_
  refine lv_iload_n hx hb dX6_tenthsOf_13 rfl (lv_at hl 1 rfl) ?_
  refine z_imulN hx hb (a := 3) (b := k) rfl rfl dX6_tenthsOf_14 ?_
  refine lv_iconst (v := 1) hx hb dX6_tenthsOf_15 (by decide) ?_
  refine z_iaddN hx hb (a := 3 * k) (b := 1) rfl rfl dX6_tenthsOf_16 ?_
  refine z_iald hx hb hE hP 1 rfl (j := (3 * k) + 1) rfl (by omega) (by decide) dX6_tenthsOf_17 ?_
  refine lv_iload_n hx hb dX6_tenthsOf_18 rfl (lv_at hl 2 rfl) ?_
  refine z_roSi (As := [.int (rw (3 * k)), .int (rw ((3 * k) + 1)), .int hd0]) (rest := []) ⟨hx, hb, hml, hown, hts⟩ (c_X6_tenthsBy l D cI cZ cA (rw (3 * k)) (rw ((3 * k) + 1)) hd0 ) (va_cwS 3 hts gX6_tenthsOf_X6_tenthsBy rfl rfl rfl (by decide +kernel) ⟨Nat.le_of_ble_eq_true rfl, Nat.le_of_ble_eq_true rfl⟩) hE hP [] rfl rfl hl.1 rfl (Nat.le_of_ble_eq_true rfl) dX6_tenthsOf_19 ⟨Nat.zero_le _, Nat.zero_le _⟩ ?_
  exact W.iret (v := (tb (rw (3 * k)) (rw ((3 * k) + 1)) hd0)) hx hb hr (fun t ht hW => ⟨(tb (rw (3 * k)) (rw ((3 * k) + 1)) hd0), rfl, rfl, ht⟩) (fun q h => by cases h) dX6_tenthsOf_22

set_option maxHeartbeats 4000000 in
set_option maxRecDepth 100000 in
theorem c_X6_setOf (l : Launch) (D : va_G) (cI cZ cA : ClassId) (mo : Nat) (apg : Nat) (P : Nat) (ea : Int32) (K : Nat) (Hn : Nat) (ym : Int32) (tm : Int32) (arw : Nat) (ans : Nat) (aro : Nat) (abo : Nat) (Sm : Nat) (asi : Nat) (sd : Int32) (asv : Nat) (kt : Int32) (ky : Int32) (ks : Nat) (akr : Nat) (akn : Nat) (aks : Nat) (ha : Int64) (ns : Nat → Int32) (k : Int32) (hH : Hn ≤ 5) : Met l yX6_setOf wsX6_setOf (zr 1) (va_Pc [.ref mo, .int k] (zPr D cI cZ cA [(mo, .inr (6, [.ref apg, .int (nI P), .int ea, .int (nI K), .int (nI Hn), .int ym, .int tm, .ref arw, .ref ans, .ref aro, .ref abo, .int (nI Sm), .ref asi, .int sd, .ref asv, .int kt, .int ky, .int (nI ks), .ref akr, .ref akn, .ref aks, .long ha])), (ans, .inl (cI, 20, .inl ns))])) (vp_Si (fun r => r = sOfN ns k Hn)) 0 0 (fun _ => False) := by
  refine Met.ofW (cc := cX6_setOf) (maxL := 4) (ret := (some .int)) (by decide) rfl ?_
  intro p e s m args below meth c s₁ B hml hv
  obtain ⟨rfl, hP, hE⟩ := hv
  have hx := B.exec
  have hb := B.bytes
  have hr := B.returns
  have hts := atoms_spec (ws := wsX6_setOf) B.pre
  have hown : s.vm.findClass RX6 = some m.cls := findClass_of_methodNamed B.named
  have hlocks := B.notSynchronized
  have hP : va_P D vwCl [(mo, .inr (6, [.ref apg, .int (nI P), .int ea, .int (nI K), .int (nI Hn), .int ym, .int tm, .ref arw, .ref ans, .ref aro, .ref abo, .int (nI Sm), .ref asi, .int sd, .ref asv, .int kt, .int ky, .int (nI ks), .ref akr, .ref akn, .ref aks, .long ha])), (ans, .inl (cI, 20, .inl ns))] s.heap := hP
  have hl := lv_entry ([.ref mo, .int k]) (n := 4) (Nat.le_of_ble_eq_true rfl)
  rw [lg_entry_eq]
  generalize (lg_sl ([.ref mo, .int k]) ++ List.replicate (4 - (lg_sl ([.ref mo, .int k])).length) Slot.unset).toArray = ls at hl ⊢
  have hl : lv_has ls 4 [(0, .ref mo), (1, .int k)] := hl
  have hinX6 : ∀ w ∈ wsX60, w ∈ wsX6_setOf := fun w h => List.mem_cons_of_mem _ (List.mem_append_right _ h)
  have k_0 := hts (.fieldLink RX6 75 "VowDovesModel" "holes" "I") (by decide +kernel)
  have k_1 := hts (.fieldLink RX6 16 "VowDovesModel" "nests" "[I") (by decide +kernel)
  refine lv_iconst (v := 0) hx hb dX6_setOf_0 (by decide) ?_
  refine lv_istore_n (lv' := [(2, .int 0), (0, .ref mo), (1, .int k)]) hx hb dX6_setOf_1 rfl hl (by decide) rfl (fun ls hl => ?_)
  refine lv_iconst (v := 0) hx hb dX6_setOf_2 (by decide) ?_
  refine lv_istore_n (lv' := [(3, .int 0), (2, .int 0), (0, .ref mo), (1, .int k)]) hx hb dX6_setOf_3 rfl hl (by decide) rfl (fun ls hl => ?_)
  have hc4_1 : ∀ (n : Nat) (i : Nat), (i ≤ Hn) → (Hn + 1 ≤ i + n) → ∀ (w2 : Int32), w2 = sOfN ns k i → ∀ (w3 : Int32), w3 = nI i → ∀ (ls : Array Slot), lv_has ls 4 [(3, .int w3), (2, .int w2), (0, .ref mo), (1, .int k)] → W p l e (headSpec wsX6_setOf (zr 1)).room s m ([.ref mo, .int k] : List Value).toArray below meth c s.heap [] 0 0 (MQ below (vp_Si (fun r => r = sOfN ns k Hn)) ([.ref mo, .int k] : List Value).toArray s 0 0 (fun _ => False)) (F0 m 4 ls []) := by
    intro n
    induction n with
    | zero => intro i hi hfu; exact absurd hfu (by omega)
    | succ n ihhc4_1 =>
      intro i hi hfu w2 ew2 w3 ew3 ls hl
      subst ew2
      subst ew3
      refine lv_iload_n hx hb dX6_setOf_4 rfl (lv_at hl 0 rfl) ?_
      refine lv_aload_n hx hb dX6_setOf_5 rfl (lv_at hl 2 rfl) ?_
      refine va_get (D := D) (ci := 6) (v := .int (nI Hn)) (C := RX6) (T := TX6) (N := 22) hx hb hts hinX6 hown hE.1 hP 0 rfl rfl 4 (by decide) k_0 (fun _ h9 => h9) rfl dX6_setOf_6 ?_
      refine lv_icmp_ge (tgt := 42) hx hb dX6_setOf_9 (by decide) (fun c_9 => ?_) (fun c_9 => ?_)
      · have n_9 := zn_le (a := Hn) (b := i) rfl rfl c_9 (by omega) (by omega)
        obtain rfl : Hn = i := by omega
        refine lv_iload_n hx hb dX6_setOf_42 rfl (lv_at hl 1 rfl) ?_
        exact W.iret (v := sOfN ns k Hn) hx hb hr (fun t ht hW => ⟨(sOfN ns k Hn), rfl, rfl, ht⟩) (fun q h => by cases h) dX6_setOf_43
      · have n_9 := zn_nle (a := Hn) (b := i) rfl rfl c_9 (by omega) (by omega)
        refine lv_iload_n hx hb dX6_setOf_12 rfl (lv_at hl 1 rfl) ?_
        refine lv_aload_n hx hb dX6_setOf_13 rfl (lv_at hl 2 rfl) ?_
        refine va_get (D := D) (ci := 6) (v := .ref ans) (C := RX6) (T := TX6) (N := 22) hx hb hts hinX6 hown hE.1 hP 0 rfl rfl 8 (by decide) k_1 (fun _ h9 => h9) rfl dX6_setOf_14 ?_
        refine lv_iconst (v := 4) hx hb dX6_setOf_17 (by decide) ?_
        refine lv_iload_n hx hb dX6_setOf_18 rfl (lv_at hl 0 rfl) ?_
        refine z_imulN hx hb (a := 4) (b := i) rfl rfl dX6_setOf_19 ?_
        refine lv_iconst (v := 1) hx hb dX6_setOf_20 (by decide) ?_
        refine z_iaddN hx hb (a := 4 * i) (b := 1) rfl rfl dX6_setOf_21 ?_
        refine z_iald hx hb hE hP 1 rfl (j := (4 * i) + 1) rfl (by omega) (by decide) dX6_setOf_22 ?_
        refine lv_iload_n hx hb dX6_setOf_23 rfl (lv_at hl 3 rfl) ?_
        refine lv_icmp_ne (tgt := 33) hx hb dX6_setOf_24 (by decide) (fun c_24 => ?_) (fun c_24 => ?_)
        · refine lv_iconst (v := 0) hx hb dX6_setOf_33 (by decide) ?_
          refine lv_ior hx hb dX6_setOf_34 ?_
          refine lv_istore_n (lv' := [(2, .int ((sOfN ns k i) ||| 0)), (3, .int (nI i)), (0, .ref mo), (1, .int k)]) hx hb dX6_setOf_35 rfl hl (by decide) rfl (fun ls hl => ?_)
          refine lv_iinc (v := nI (i + 1)) (lv' := [(3, .int (nI (i + 1))), (2, .int ((sOfN ns k i) ||| 0)), (0, .ref mo), (1, .int k)]) hx hb dX6_setOf_36 hl (k := 1) rfl (nI_add i 1) (by decide) rfl (fun ls hl => ?_)
          refine lv_goto (tgt := 4) hx hb dX6_setOf_39 (by decide) ?_
          exact ihhc4_1 (i + 1) (by omega) (by omega) ((sOfN ns k i) ||| 0) (by simp [sOfN, c_24]) (nI (i + 1)) rfl ls (lv_sub hl [0, 1, 2, 3] rfl)
        · refine lv_iconst (v := 1) hx hb dX6_setOf_27 (by decide) ?_
          refine lv_iload_n hx hb dX6_setOf_28 rfl (lv_at hl 0 rfl) ?_
          refine lv_ishl hx hb dX6_setOf_29 ?_
          refine lv_goto (tgt := 34) hx hb dX6_setOf_30 (by decide) ?_
          refine lv_ior hx hb dX6_setOf_34 ?_
          refine lv_istore_n (lv' := [(2, .int ((sOfN ns k i) ||| (1 <<< ((nI i) &&& 31)))), (3, .int (nI i)), (0, .ref mo), (1, .int k)]) hx hb dX6_setOf_35 rfl hl (by decide) rfl (fun ls hl => ?_)
          refine lv_iinc (v := nI (i + 1)) (lv' := [(3, .int (nI (i + 1))), (2, .int ((sOfN ns k i) ||| (1 <<< ((nI i) &&& 31)))), (0, .ref mo), (1, .int k)]) hx hb dX6_setOf_36 hl (k := 1) rfl (nI_add i 1) (by decide) rfl (fun ls hl => ?_)
          refine lv_goto (tgt := 4) hx hb dX6_setOf_39 (by decide) ?_
          exact ihhc4_1 (i + 1) (by omega) (by omega) ((sOfN ns k i) ||| (1 <<< ((nI i) &&& 31))) (by simp [sOfN, c_24]) (nI (i + 1)) rfl ls (lv_sub hl [0, 1, 2, 3] rfl)
  exact hc4_1 (Hn + 1) 0 (by omega) (by omega) 0 rfl 0 rfl ls (lv_sub hl [0, 1, 2, 3] rfl)

set_option maxHeartbeats 4000000 in
set_option maxRecDepth 100000 in
theorem c_X6_ones (l : Launch) (D : va_G) (cI cZ cA : ClassId) (x0 : Int32)  : Met l yX6_ones wsX6_ones (zr 1) (va_Pc [.int x0] (zPr D cI cZ cA [])) (vp_Si (fun r => r = oneN x0 5)) 0 0 (fun _ => False) := by
  refine Met.ofW (cc := cX6_ones) (maxL := 3) (ret := (some .int)) (by decide) rfl ?_
  intro p e s m args below meth c s₁ B hml hv
  obtain ⟨rfl, hP, hE⟩ := hv
  have hx := B.exec
  have hb := B.bytes
  have hr := B.returns
  have hts := atoms_spec (ws := wsX6_ones) B.pre
  have hown : s.vm.findClass RX6 = some m.cls := findClass_of_methodNamed B.named
  have hlocks := B.notSynchronized
  have hP : va_P D vwCl [] s.heap := hP
  have hl := lv_entry ([.int x0]) (n := 3) (Nat.le_of_ble_eq_true rfl)
  rw [lg_entry_eq]
  generalize (lg_sl ([.int x0]) ++ List.replicate (3 - (lg_sl ([.int x0])).length) Slot.unset).toArray = ls at hl ⊢
  have hl : lv_has ls 3 [(0, .int x0)] := hl
  refine lv_iconst (v := 0) hx hb dX6_ones_0 (by decide) ?_
  refine lv_istore_n (lv' := [(1, .int 0), (0, .int x0)]) hx hb dX6_ones_1 rfl hl (by decide) rfl (fun ls hl => ?_)
  refine lv_iconst (v := 0) hx hb dX6_ones_2 (by decide) ?_
  refine lv_istore_n (lv' := [(2, .int 0), (1, .int 0), (0, .int x0)]) hx hb dX6_ones_3 rfl hl (by decide) rfl (fun ls hl => ?_)
  have hc4_1 : ∀ (n : Nat) (i : Nat), (i ≤ 5) → (5 + 1 ≤ i + n) → ∀ (w2 : Int32), w2 = oneN x0 i → ∀ (w3 : Int32), w3 = nI i → ∀ (ls : Array Slot), lv_has ls 3 [(2, .int w3), (1, .int w2), (0, .int x0)] → W p l e (headSpec wsX6_ones (zr 1)).room s m ([.int x0] : List Value).toArray below meth c s.heap [] 0 0 (MQ below (vp_Si (fun r => r = oneN x0 5)) ([.int x0] : List Value).toArray s 0 0 (fun _ => False)) (F0 m 4 ls []) := by
    intro n
    induction n with
    | zero => intro i hi hfu; exact absurd hfu (by omega)
    | succ n ihhc4_1 =>
      intro i hi hfu w2 ew2 w3 ew3 ls hl
      subst ew2
      subst ew3
      refine lv_iload_n hx hb dX6_ones_4 rfl (lv_at hl 0 rfl) ?_
      refine lv_iconst (v := 5) hx hb dX6_ones_5 (by decide) ?_
      refine lv_icmp_ge (tgt := 23) hx hb dX6_ones_6 (by decide) (fun c_6 => ?_) (fun c_6 => ?_)
      · have n_6 := zn_le (a := 5) (b := i) rfl rfl c_6 (by omega) (by omega)
        obtain rfl : 5 = i := by omega
        refine lv_iload_n hx hb dX6_ones_23 rfl (lv_at hl 1 rfl) ?_
        exact W.iret (v := oneN x0 5) hx hb hr (fun t ht hW => ⟨(oneN x0 5), rfl, rfl, ht⟩) (fun q h => by cases h) dX6_ones_24
      · have n_6 := zn_nle (a := 5) (b := i) rfl rfl c_6 (by omega) (by omega)
        refine lv_iload_n hx hb dX6_ones_9 rfl (lv_at hl 1 rfl) ?_
        refine lv_iload_n hx hb dX6_ones_10 rfl (lv_at hl 2 rfl) ?_
        refine lv_iload_n hx hb dX6_ones_11 rfl (lv_at hl 0 rfl) ?_
        refine lv_ishr hx hb dX6_ones_12 ?_
        refine lv_iconst (v := 1) hx hb dX6_ones_13 (by decide) ?_
        refine lv_iand hx hb dX6_ones_14 ?_
        refine lv_iadd hx hb dX6_ones_15 ?_
        refine lv_istore_n (lv' := [(1, .int ((oneN x0 i) + ((x0 >>> ((nI i) &&& 31)) &&& 1))), (2, .int (nI i)), (0, .int x0)]) hx hb dX6_ones_16 rfl hl (by decide) rfl (fun ls hl => ?_)
        refine lv_iinc (v := nI (i + 1)) (lv' := [(2, .int (nI (i + 1))), (1, .int ((oneN x0 i) + ((x0 >>> ((nI i) &&& 31)) &&& 1))), (0, .int x0)]) hx hb dX6_ones_17 hl (k := 1) rfl (nI_add i 1) (by decide) rfl (fun ls hl => ?_)
        refine lv_goto (tgt := 4) hx hb dX6_ones_20 (by decide) ?_
        exact ihhc4_1 (i + 1) (by omega) (by omega) ((oneN x0 i) + ((x0 >>> ((nI i) &&& 31)) &&& 1)) rfl (nI (i + 1)) rfl ls (lv_sub hl [0, 1, 2] rfl)
  exact hc4_1 (5 + 1) 0 (by omega) (by omega) 0 rfl 0 rfl ls (lv_sub hl [0, 1, 2] rfl)

set_option maxHeartbeats 4000000 in
set_option maxRecDepth 100000 in
theorem c_X6_eggsIn (l : Launch) (D : va_G) (cI cZ cA : ClassId) (mo : Nat) (apg : Nat) (P : Nat) (ea : Int32) (K : Nat) (Hn : Nat) (ym : Int32) (tm : Int32) (arw : Nat) (ans : Nat) (aro : Nat) (abo : Nat) (Sm : Nat) (asi : Nat) (sd : Int32) (asv : Nat) (kt : Int32) (ky : Int32) (ks : Nat) (akr : Nat) (akn : Nat) (aks : Nat) (ha : Int64) (ns : Nat → Int32) (x0 : Int32) (hH : Hn ≤ 5) : Met l yX6_eggsIn wsX6_eggsIn (zr 1) (va_Pc [.ref mo, .int x0] (zPr D cI cZ cA [(mo, .inr (6, [.ref apg, .int (nI P), .int ea, .int (nI K), .int (nI Hn), .int ym, .int tm, .ref arw, .ref ans, .ref aro, .ref abo, .int (nI Sm), .ref asi, .int sd, .ref asv, .int kt, .int ky, .int (nI ks), .ref akr, .ref akn, .ref aks, .long ha])), (ans, .inl (cI, 20, .inl ns))])) (vp_Si (fun r => r = eInN ns x0 Hn)) 0 0 (fun _ => False) := by
  refine Met.ofW (cc := cX6_eggsIn) (maxL := 4) (ret := (some .int)) (by decide) rfl ?_
  intro p e s m args below meth c s₁ B hml hv
  obtain ⟨rfl, hP, hE⟩ := hv
  have hx := B.exec
  have hb := B.bytes
  have hr := B.returns
  have hts := atoms_spec (ws := wsX6_eggsIn) B.pre
  have hown : s.vm.findClass RX6 = some m.cls := findClass_of_methodNamed B.named
  have hlocks := B.notSynchronized
  have hP : va_P D vwCl [(mo, .inr (6, [.ref apg, .int (nI P), .int ea, .int (nI K), .int (nI Hn), .int ym, .int tm, .ref arw, .ref ans, .ref aro, .ref abo, .int (nI Sm), .ref asi, .int sd, .ref asv, .int kt, .int ky, .int (nI ks), .ref akr, .ref akn, .ref aks, .long ha])), (ans, .inl (cI, 20, .inl ns))] s.heap := hP
  have hl := lv_entry ([.ref mo, .int x0]) (n := 4) (Nat.le_of_ble_eq_true rfl)
  rw [lg_entry_eq]
  generalize (lg_sl ([.ref mo, .int x0]) ++ List.replicate (4 - (lg_sl ([.ref mo, .int x0])).length) Slot.unset).toArray = ls at hl ⊢
  have hl : lv_has ls 4 [(0, .ref mo), (1, .int x0)] := hl
  have hinX6 : ∀ w ∈ wsX60, w ∈ wsX6_eggsIn := fun w h => List.mem_cons_of_mem _ (List.mem_append_right _ h)
  have k_0 := hts (.fieldLink RX6 75 "VowDovesModel" "holes" "I") (by decide +kernel)
  have k_1 := hts (.fieldLink RX6 16 "VowDovesModel" "nests" "[I") (by decide +kernel)
  refine lv_iconst (v := 0) hx hb dX6_eggsIn_0 (by decide) ?_
  refine lv_istore_n (lv' := [(2, .int 0), (0, .ref mo), (1, .int x0)]) hx hb dX6_eggsIn_1 rfl hl (by decide) rfl (fun ls hl => ?_)
  refine lv_iconst (v := 0) hx hb dX6_eggsIn_2 (by decide) ?_
  refine lv_istore_n (lv' := [(3, .int 0), (2, .int 0), (0, .ref mo), (1, .int x0)]) hx hb dX6_eggsIn_3 rfl hl (by decide) rfl (fun ls hl => ?_)
  have hc4_1 : ∀ (n : Nat) (i : Nat), (i ≤ Hn) → (Hn + 1 ≤ i + n) → ∀ (w2 : Int32), w2 = eInN ns x0 i → ∀ (w3 : Int32), w3 = nI i → ∀ (ls : Array Slot), lv_has ls 4 [(3, .int w3), (2, .int w2), (0, .ref mo), (1, .int x0)] → W p l e (headSpec wsX6_eggsIn (zr 1)).room s m ([.ref mo, .int x0] : List Value).toArray below meth c s.heap [] 0 0 (MQ below (vp_Si (fun r => r = eInN ns x0 Hn)) ([.ref mo, .int x0] : List Value).toArray s 0 0 (fun _ => False)) (F0 m 4 ls []) := by
    intro n
    induction n with
    | zero => intro i hi hfu; exact absurd hfu (by omega)
    | succ n ihhc4_1 =>
      intro i hi hfu w2 ew2 w3 ew3 ls hl
      subst ew2
      subst ew3
      refine lv_iload_n hx hb dX6_eggsIn_4 rfl (lv_at hl 0 rfl) ?_
      refine lv_aload_n hx hb dX6_eggsIn_5 rfl (lv_at hl 2 rfl) ?_
      refine va_get (D := D) (ci := 6) (v := .int (nI Hn)) (C := RX6) (T := TX6) (N := 22) hx hb hts hinX6 hown hE.1 hP 0 rfl rfl 4 (by decide) k_0 (fun _ h9 => h9) rfl dX6_eggsIn_6 ?_
      refine lv_icmp_ge (tgt := 37) hx hb dX6_eggsIn_9 (by decide) (fun c_9 => ?_) (fun c_9 => ?_)
      · have n_9 := zn_le (a := Hn) (b := i) rfl rfl c_9 (by omega) (by omega)
        obtain rfl : Hn = i := by omega
        refine lv_iload_n hx hb dX6_eggsIn_37 rfl (lv_at hl 1 rfl) ?_
        exact W.iret (v := eInN ns x0 Hn) hx hb hr (fun t ht hW => ⟨(eInN ns x0 Hn), rfl, rfl, ht⟩) (fun q h => by cases h) dX6_eggsIn_38
      · have n_9 := zn_nle (a := Hn) (b := i) rfl rfl c_9 (by omega) (by omega)
        refine lv_iload_n hx hb dX6_eggsIn_12 rfl (lv_at hl 1 rfl) ?_
        refine lv_iload_n hx hb dX6_eggsIn_13 rfl (lv_at hl 3 rfl) ?_
        refine lv_iload_n hx hb dX6_eggsIn_14 rfl (lv_at hl 0 rfl) ?_
        refine lv_ishr hx hb dX6_eggsIn_15 ?_
        refine lv_iconst (v := 1) hx hb dX6_eggsIn_16 (by decide) ?_
        refine lv_iand hx hb dX6_eggsIn_17 ?_
        refine lv_aload_n hx hb dX6_eggsIn_18 rfl (lv_at hl 2 rfl) ?_
        refine va_get (D := D) (ci := 6) (v := .ref ans) (C := RX6) (T := TX6) (N := 22) hx hb hts hinX6 hown hE.1 hP 0 rfl rfl 8 (by decide) k_1 (fun _ h9 => h9) rfl dX6_eggsIn_19 ?_
        refine lv_iconst (v := 4) hx hb dX6_eggsIn_22 (by decide) ?_
        refine lv_iload_n hx hb dX6_eggsIn_23 rfl (lv_at hl 0 rfl) ?_
        refine z_imulN hx hb (a := 4) (b := i) rfl rfl dX6_eggsIn_24 ?_
        refine lv_iconst (v := 3) hx hb dX6_eggsIn_25 (by decide) ?_
        refine z_iaddN hx hb (a := 4 * i) (b := 3) rfl rfl dX6_eggsIn_26 ?_
        refine z_iald hx hb hE hP 1 rfl (j := (4 * i) + 3) rfl (by omega) (by decide) dX6_eggsIn_27 ?_
        refine lv_imul hx hb dX6_eggsIn_28 ?_
        refine lv_iadd hx hb dX6_eggsIn_29 ?_
        refine lv_istore_n (lv' := [(2, .int ((eInN ns x0 i) + (((x0 >>> ((nI i) &&& 31)) &&& 1) * (ns ((4 * i) + 3))))), (3, .int (nI i)), (0, .ref mo), (1, .int x0)]) hx hb dX6_eggsIn_30 rfl hl (by decide) rfl (fun ls hl => ?_)
        refine lv_iinc (v := nI (i + 1)) (lv' := [(3, .int (nI (i + 1))), (2, .int ((eInN ns x0 i) + (((x0 >>> ((nI i) &&& 31)) &&& 1) * (ns ((4 * i) + 3))))), (0, .ref mo), (1, .int x0)]) hx hb dX6_eggsIn_31 hl (k := 1) rfl (nI_add i 1) (by decide) rfl (fun ls hl => ?_)
        refine lv_goto (tgt := 4) hx hb dX6_eggsIn_34 (by decide) ?_
        exact ihhc4_1 (i + 1) (by omega) (by omega) ((eInN ns x0 i) + (((x0 >>> ((nI i) &&& 31)) &&& 1) * (ns ((4 * i) + 3)))) rfl (nI (i + 1)) rfl ls (lv_sub hl [0, 1, 2, 3] rfl)
  exact hc4_1 (Hn + 1) 0 (by omega) (by omega) 0 rfl 0 rfl ls (lv_sub hl [0, 1, 2, 3] rfl)

set_option maxHeartbeats 4000000 in
set_option maxRecDepth 100000 in
theorem c_X6_birds (l : Launch) (D : va_G) (cI cZ cA : ClassId) (mo : Nat) (apg : Nat) (P : Nat) (ea : Int32) (K : Nat) (Hn : Nat) (ym : Int32) (tm : Int32) (arw : Nat) (ans : Nat) (aro : Nat) (abo : Nat) (Sm : Nat) (asi : Nat) (sd : Int32) (asv : Nat) (kt : Int32) (ky : Int32) (ks : Nat) (akr : Nat) (akn : Nat) (aks : Nat) (ha : Int64) (ns : Nat → Int32) (b0 : Int32) (hH : Hn ≤ 5) : Met l yX6_birds wsX6_birds (zr 1) (va_Pc [.ref mo, .int b0] (zPr D cI cZ cA [(mo, .inr (6, [.ref apg, .int (nI P), .int ea, .int (nI K), .int (nI Hn), .int ym, .int tm, .ref arw, .ref ans, .ref aro, .ref abo, .int (nI Sm), .ref asi, .int sd, .ref asv, .int kt, .int ky, .int (nI ks), .ref akr, .ref akn, .ref aks, .long ha])), (ans, .inl (cI, 20, .inl ns))])) (vp_Si (fun r => r = brdN ns b0 Hn)) 0 0 (fun _ => False) := by
  refine Met.ofW (cc := cX6_birds) (maxL := 4) (ret := (some .int)) (by decide) rfl ?_
  intro p e s m args below meth c s₁ B hml hv
  obtain ⟨rfl, hP, hE⟩ := hv
  have hx := B.exec
  have hb := B.bytes
  have hr := B.returns
  have hts := atoms_spec (ws := wsX6_birds) B.pre
  have hown : s.vm.findClass RX6 = some m.cls := findClass_of_methodNamed B.named
  have hlocks := B.notSynchronized
  have hP : va_P D vwCl [(mo, .inr (6, [.ref apg, .int (nI P), .int ea, .int (nI K), .int (nI Hn), .int ym, .int tm, .ref arw, .ref ans, .ref aro, .ref abo, .int (nI Sm), .ref asi, .int sd, .ref asv, .int kt, .int ky, .int (nI ks), .ref akr, .ref akn, .ref aks, .long ha])), (ans, .inl (cI, 20, .inl ns))] s.heap := hP
  have hl := lv_entry ([.ref mo, .int b0]) (n := 4) (Nat.le_of_ble_eq_true rfl)
  rw [lg_entry_eq]
  generalize (lg_sl ([.ref mo, .int b0]) ++ List.replicate (4 - (lg_sl ([.ref mo, .int b0])).length) Slot.unset).toArray = ls at hl ⊢
  have hl : lv_has ls 4 [(0, .ref mo), (1, .int b0)] := hl
  have hinX6 : ∀ w ∈ wsX60, w ∈ wsX6_birds := fun w h => List.mem_cons_of_mem _ (List.mem_append_right _ h)
  have k_0 := hts (.fieldLink RX6 75 "VowDovesModel" "holes" "I") (by decide +kernel)
  have k_1 := hts (.fieldLink RX6 16 "VowDovesModel" "nests" "[I") (by decide +kernel)
  refine lv_iconst (v := 0) hx hb dX6_birds_0 (by decide) ?_
  refine lv_istore_n (lv' := [(2, .int 0), (0, .ref mo), (1, .int b0)]) hx hb dX6_birds_1 rfl hl (by decide) rfl (fun ls hl => ?_)
  refine lv_iconst (v := 0) hx hb dX6_birds_2 (by decide) ?_
  refine lv_istore_n (lv' := [(3, .int 0), (2, .int 0), (0, .ref mo), (1, .int b0)]) hx hb dX6_birds_3 rfl hl (by decide) rfl (fun ls hl => ?_)
  have hc4_1 : ∀ (n : Nat) (i : Nat), (i ≤ Hn) → (Hn + 1 ≤ i + n) → ∀ (w2 : Int32), w2 = brdN ns b0 i → ∀ (w3 : Int32), w3 = nI i → ∀ (ls : Array Slot), lv_has ls 4 [(3, .int w3), (2, .int w2), (0, .ref mo), (1, .int b0)] → W p l e (headSpec wsX6_birds (zr 1)).room s m ([.ref mo, .int b0] : List Value).toArray below meth c s.heap [] 0 0 (MQ below (vp_Si (fun r => r = brdN ns b0 Hn)) ([.ref mo, .int b0] : List Value).toArray s 0 0 (fun _ => False)) (F0 m 4 ls []) := by
    intro n
    induction n with
    | zero => intro i hi hfu; exact absurd hfu (by omega)
    | succ n ihhc4_1 =>
      intro i hi hfu w2 ew2 w3 ew3 ls hl
      subst ew2
      subst ew3
      refine lv_iload_n hx hb dX6_birds_4 rfl (lv_at hl 0 rfl) ?_
      refine lv_aload_n hx hb dX6_birds_5 rfl (lv_at hl 2 rfl) ?_
      refine va_get (D := D) (ci := 6) (v := .int (nI Hn)) (C := RX6) (T := TX6) (N := 22) hx hb hts hinX6 hown hE.1 hP 0 rfl rfl 4 (by decide) k_0 (fun _ h9 => h9) rfl dX6_birds_6 ?_
      refine lv_icmp_ge (tgt := 40) hx hb dX6_birds_9 (by decide) (fun c_9 => ?_) (fun c_9 => ?_)
      · have n_9 := zn_le (a := Hn) (b := i) rfl rfl c_9 (by omega) (by omega)
        obtain rfl : Hn = i := by omega
        refine lv_iload_n hx hb dX6_birds_40 rfl (lv_at hl 1 rfl) ?_
        exact W.iret (v := brdN ns b0 Hn) hx hb hr (fun t ht hW => ⟨(brdN ns b0 Hn), rfl, rfl, ht⟩) (fun q h => by cases h) dX6_birds_41
      · have n_9 := zn_nle (a := Hn) (b := i) rfl rfl c_9 (by omega) (by omega)
        refine lv_iload_n hx hb dX6_birds_12 rfl (lv_at hl 1 rfl) ?_
        refine lv_aload_n hx hb dX6_birds_13 rfl (lv_at hl 2 rfl) ?_
        refine va_get (D := D) (ci := 6) (v := .ref ans) (C := RX6) (T := TX6) (N := 22) hx hb hts hinX6 hown hE.1 hP 0 rfl rfl 8 (by decide) k_1 (fun _ h9 => h9) rfl dX6_birds_14 ?_
        refine lv_iconst (v := 4) hx hb dX6_birds_17 (by decide) ?_
        refine lv_iload_n hx hb dX6_birds_18 rfl (lv_at hl 0 rfl) ?_
        refine z_imulN hx hb (a := 4) (b := i) rfl rfl dX6_birds_19 ?_
        refine lv_iconst (v := 2) hx hb dX6_birds_20 (by decide) ?_
        refine z_iaddN hx hb (a := 4 * i) (b := 2) rfl rfl dX6_birds_21 ?_
        refine z_iald hx hb hE hP 1 rfl (j := (4 * i) + 2) rfl (by omega) (by decide) dX6_birds_22 ?_
        refine lv_iload_n hx hb dX6_birds_23 rfl (lv_at hl 3 rfl) ?_
        refine lv_icmp_ne (tgt := 31) hx hb dX6_birds_24 (by decide) (fun c_24 => ?_) (fun c_24 => ?_)
        · refine lv_iconst (v := 0) hx hb dX6_birds_31 (by decide) ?_
          refine lv_iadd hx hb dX6_birds_32 ?_
          refine lv_istore_n (lv' := [(2, .int ((brdN ns b0 i) + 0)), (3, .int (nI i)), (0, .ref mo), (1, .int b0)]) hx hb dX6_birds_33 rfl hl (by decide) rfl (fun ls hl => ?_)
          refine lv_iinc (v := nI (i + 1)) (lv' := [(3, .int (nI (i + 1))), (2, .int ((brdN ns b0 i) + 0)), (0, .ref mo), (1, .int b0)]) hx hb dX6_birds_34 hl (k := 1) rfl (nI_add i 1) (by decide) rfl (fun ls hl => ?_)
          refine lv_goto (tgt := 4) hx hb dX6_birds_37 (by decide) ?_
          exact ihhc4_1 (i + 1) (by omega) (by omega) ((brdN ns b0 i) + 0) (by simp [brdN, c_24]) (nI (i + 1)) rfl ls (lv_sub hl [0, 1, 2, 3] rfl)
        · refine lv_iconst (v := 1) hx hb dX6_birds_27 (by decide) ?_
          refine lv_goto (tgt := 32) hx hb dX6_birds_28 (by decide) ?_
          refine lv_iadd hx hb dX6_birds_32 ?_
          refine lv_istore_n (lv' := [(2, .int ((brdN ns b0 i) + 1)), (3, .int (nI i)), (0, .ref mo), (1, .int b0)]) hx hb dX6_birds_33 rfl hl (by decide) rfl (fun ls hl => ?_)
          refine lv_iinc (v := nI (i + 1)) (lv' := [(3, .int (nI (i + 1))), (2, .int ((brdN ns b0 i) + 1)), (0, .ref mo), (1, .int b0)]) hx hb dX6_birds_34 hl (k := 1) rfl (nI_add i 1) (by decide) rfl (fun ls hl => ?_)
          refine lv_goto (tgt := 4) hx hb dX6_birds_37 (by decide) ?_
          exact ihhc4_1 (i + 1) (by omega) (by omega) ((brdN ns b0 i) + 1) (by simp [brdN, c_24]) (nI (i + 1)) rfl ls (lv_sub hl [0, 1, 2, 3] rfl)
  exact hc4_1 (Hn + 1) 0 (by omega) (by omega) 0 rfl 0 rfl ls (lv_sub hl [0, 1, 2, 3] rfl)

set_option maxHeartbeats 4000000 in
set_option maxRecDepth 100000 in
theorem c_X6_brokenAll (l : Launch) (D : va_G) (cI cZ cA : ClassId) (mo : Nat) (apg : Nat) (P : Nat) (ea : Int32) (K : Nat) (Hn : Nat) (ym : Int32) (tm : Int32) (arw : Nat) (ans : Nat) (aro : Nat) (abo : Nat) (Sm : Nat) (asi : Nat) (sd : Int32) (asv : Nat) (kt : Int32) (ky : Int32) (ks : Nat) (akr : Nat) (akn : Nat) (aks : Nat) (ha : Int64) (rw : Nat → Int32) (hK : K ≤ 5) : Met l yX6_brokenAll wsX6_brokenAll (zr 1) (va_Pc [.ref mo] (zPr D cI cZ cA [(mo, .inr (6, [.ref apg, .int (nI P), .int ea, .int (nI K), .int (nI Hn), .int ym, .int tm, .ref arw, .ref ans, .ref aro, .ref abo, .int (nI Sm), .ref asi, .int sd, .ref asv, .int kt, .int ky, .int (nI ks), .ref akr, .ref akn, .ref aks, .long ha])), (arw, .inl (cI, 15, .inl rw))])) (vp_Si (fun r => r = brkN rw K)) 0 0 (fun _ => False) := by
  refine Met.ofW (cc := cX6_brokenAll) (maxL := 3) (ret := (some .int)) (by decide) rfl ?_
  intro p e s m args below meth c s₁ B hml hv
  obtain ⟨rfl, hP, hE⟩ := hv
  have hx := B.exec
  have hb := B.bytes
  have hr := B.returns
  have hts := atoms_spec (ws := wsX6_brokenAll) B.pre
  have hown : s.vm.findClass RX6 = some m.cls := findClass_of_methodNamed B.named
  have hlocks := B.notSynchronized
  have hP : va_P D vwCl [(mo, .inr (6, [.ref apg, .int (nI P), .int ea, .int (nI K), .int (nI Hn), .int ym, .int tm, .ref arw, .ref ans, .ref aro, .ref abo, .int (nI Sm), .ref asi, .int sd, .ref asv, .int kt, .int ky, .int (nI ks), .ref akr, .ref akn, .ref aks, .long ha])), (arw, .inl (cI, 15, .inl rw))] s.heap := hP
  have hl := lv_entry ([.ref mo]) (n := 3) (Nat.le_of_ble_eq_true rfl)
  rw [lg_entry_eq]
  generalize (lg_sl ([.ref mo]) ++ List.replicate (3 - (lg_sl ([.ref mo])).length) Slot.unset).toArray = ls at hl ⊢
  have hl : lv_has ls 3 [(0, .ref mo)] := hl
  have hinX6 : ∀ w ∈ wsX60, w ∈ wsX6_brokenAll := fun w h => List.mem_cons_of_mem _ (List.mem_append_right _ h)
  have k_0 := hts (.fieldLink RX6 72 "VowDovesModel" "keepers" "I") (by decide +kernel)
  have k_1 := hts (.fieldLink RX6 13 "VowDovesModel" "rows" "[I") (by decide +kernel)
  refine lv_iconst (v := 0) hx hb dX6_brokenAll_0 (by decide) ?_
  refine lv_istore_n (lv' := [(1, .int 0), (0, .ref mo)]) hx hb dX6_brokenAll_1 rfl hl (by decide) rfl (fun ls hl => ?_)
  refine lv_iconst (v := 0) hx hb dX6_brokenAll_2 (by decide) ?_
  refine lv_istore_n (lv' := [(2, .int 0), (1, .int 0), (0, .ref mo)]) hx hb dX6_brokenAll_3 rfl hl (by decide) rfl (fun ls hl => ?_)
  have hc4_1 : ∀ (n : Nat) (i : Nat), (i ≤ K) → (K + 1 ≤ i + n) → ∀ (w2 : Int32), w2 = brkN rw i → ∀ (w3 : Int32), w3 = nI i → ∀ (ls : Array Slot), lv_has ls 3 [(2, .int w3), (1, .int w2), (0, .ref mo)] → W p l e (headSpec wsX6_brokenAll (zr 1)).room s m ([.ref mo] : List Value).toArray below meth c s.heap [] 0 0 (MQ below (vp_Si (fun r => r = brkN rw K)) ([.ref mo] : List Value).toArray s 0 0 (fun _ => False)) (F0 m 4 ls []) := by
    intro n
    induction n with
    | zero => intro i hi hfu; exact absurd hfu (by omega)
    | succ n ihhc4_1 =>
      intro i hi hfu w2 ew2 w3 ew3 ls hl
      subst ew2
      subst ew3
      refine lv_iload_n hx hb dX6_brokenAll_4 rfl (lv_at hl 0 rfl) ?_
      refine lv_aload_n hx hb dX6_brokenAll_5 rfl (lv_at hl 2 rfl) ?_
      refine va_get (D := D) (ci := 6) (v := .int (nI K)) (C := RX6) (T := TX6) (N := 22) hx hb hts hinX6 hown hE.1 hP 0 rfl rfl 3 (by decide) k_0 (fun _ h9 => h9) rfl dX6_brokenAll_6 ?_
      refine lv_icmp_ge (tgt := 31) hx hb dX6_brokenAll_9 (by decide) (fun c_9 => ?_) (fun c_9 => ?_)
      · have n_9 := zn_le (a := K) (b := i) rfl rfl c_9 (by omega) (by omega)
        obtain rfl : K = i := by omega
        refine lv_iload_n hx hb dX6_brokenAll_31 rfl (lv_at hl 1 rfl) ?_
        exact W.iret (v := brkN rw K) hx hb hr (fun t ht hW => ⟨(brkN rw K), rfl, rfl, ht⟩) (fun q h => by cases h) dX6_brokenAll_32
      · have n_9 := zn_nle (a := K) (b := i) rfl rfl c_9 (by omega) (by omega)
        refine lv_iload_n hx hb dX6_brokenAll_12 rfl (lv_at hl 1 rfl) ?_
        refine lv_aload_n hx hb dX6_brokenAll_13 rfl (lv_at hl 2 rfl) ?_
        refine va_get (D := D) (ci := 6) (v := .ref arw) (C := RX6) (T := TX6) (N := 22) hx hb hts hinX6 hown hE.1 hP 0 rfl rfl 7 (by decide) k_1 (fun _ h9 => h9) rfl dX6_brokenAll_14 ?_
        refine lv_iconst (v := 3) hx hb dX6_brokenAll_17 (by decide) ?_
        refine lv_iload_n hx hb dX6_brokenAll_18 rfl (lv_at hl 0 rfl) ?_
        refine z_imulN hx hb (a := 3) (b := i) rfl rfl dX6_brokenAll_19 ?_
        refine lv_iconst (v := 2) hx hb dX6_brokenAll_20 (by decide) ?_
        refine z_iaddN hx hb (a := 3 * i) (b := 2) rfl rfl dX6_brokenAll_21 ?_
        refine z_iald hx hb hE hP 1 rfl (j := (3 * i) + 2) rfl (by omega) (by decide) dX6_brokenAll_22 ?_
        refine lv_iadd hx hb dX6_brokenAll_23 ?_
        refine lv_istore_n (lv' := [(1, .int ((brkN rw i) + (rw ((3 * i) + 2)))), (2, .int (nI i)), (0, .ref mo)]) hx hb dX6_brokenAll_24 rfl hl (by decide) rfl (fun ls hl => ?_)
        refine lv_iinc (v := nI (i + 1)) (lv' := [(2, .int (nI (i + 1))), (1, .int ((brkN rw i) + (rw ((3 * i) + 2)))), (0, .ref mo)]) hx hb dX6_brokenAll_25 hl (k := 1) rfl (nI_add i 1) (by decide) rfl (fun ls hl => ?_)
        refine lv_goto (tgt := 4) hx hb dX6_brokenAll_28 (by decide) ?_
        exact ihhc4_1 (i + 1) (by omega) (by omega) ((brkN rw i) + (rw ((3 * i) + 2))) rfl (nI (i + 1)) rfl ls (lv_sub hl [0, 1, 2] rfl)
  exact hc4_1 (K + 1) 0 (by omega) (by omega) 0 rfl 0 rfl ls (lv_sub hl [0, 1, 2] rfl)

set_option maxHeartbeats 4000000 in
set_option maxRecDepth 100000 in
theorem c_X6_empty (l : Launch) (D : va_G) (cI cZ cA : ClassId) (sz : Nat) (mo : Nat) (apg : Nat) (P : Nat) (ea : Int32) (K : Nat) (Hn : Nat) (ym : Int32) (tm : Int32) (arw : Nat) (ans : Nat) (aro : Nat) (abo : Nat) (Sm : Nat) (asi : Nat) (sd : Int32) (asv : Nat) (kt : Int32) (ky : Int32) (ks : Nat) (akr : Nat) (akn : Nat) (aks : Nat) (ha : Int64) (ns : Nat → Int32) (h : Nat) (hh : h < 5) : Met l yX6_empty wsX6_empty (zr 1) (va_Pc [.ref mo, .int (nI h)] (zPw D cI cZ cA [(mo, .inr (6, [.ref apg, .int (nI P), .int ea, .int (nI K), .int (nI Hn), .int ym, .int tm, .ref arw, .ref ans, .ref aro, .ref abo, .int (nI Sm), .ref asi, .int sd, .ref asv, .int kt, .int ky, .int (nI ks), .ref akr, .ref akn, .ref aks, .long ha])), (ans, .inl (cI, 20, .inl ns))] sz)) (va_Qv (fun (_ : Unit) => True) (zB D [(mo, .inr (6, [.ref apg, .int (nI P), .int ea, .int (nI K), .int (nI Hn), .int ym, .int tm, .ref arw, .ref ans, .ref aro, .ref abo, .int (nI Sm), .ref asi, .int sd, .ref asv, .int kt, .int ky, .int (nI ks), .ref akr, .ref akn, .ref aks, .long ha])), (ans, .inl (cI, 20, .inl (upd (upd (upd ns (4 * h + 1) (-1)) (4 * h + 2) 0) (4 * h + 3) 0)))] (va_A [(mo, .inr (6, [.ref apg, .int (nI P), .int ea, .int (nI K), .int (nI Hn), .int ym, .int tm, .ref arw, .ref ans, .ref aro, .ref abo, .int (nI Sm), .ref asi, .int sd, .ref asv, .int kt, .int ky, .int (nI ks), .ref akr, .ref akn, .ref aks, .long ha])), (ans, .inl (cI, 20, .inl ns))] sz)) (va_A [(mo, .inr (6, [.ref apg, .int (nI P), .int ea, .int (nI K), .int (nI Hn), .int ym, .int tm, .ref arw, .ref ans, .ref aro, .ref abo, .int (nI Sm), .ref asi, .int sd, .ref asv, .int kt, .int ky, .int (nI ks), .ref akr, .ref akn, .ref aks, .long ha])), (ans, .inl (cI, 20, .inl ns))] sz)) 0 0 (va_A [(mo, .inr (6, [.ref apg, .int (nI P), .int ea, .int (nI K), .int (nI Hn), .int ym, .int tm, .ref arw, .ref ans, .ref aro, .ref abo, .int (nI Sm), .ref asi, .int sd, .ref asv, .int kt, .int ky, .int (nI ks), .ref akr, .ref akn, .ref aks, .long ha])), (ans, .inl (cI, 20, .inl ns))] sz) := by
  refine Met.ofW (cc := cX6_empty) (maxL := 2) (ret := none) (by decide) rfl ?_
  intro p e s m args below meth c s₁ B hml hv
  obtain ⟨rfl, hsz, hP, hD0, hE⟩ := hv
  have hx := B.exec
  have hb := B.bytes
  have hr := B.returns
  have hts := atoms_spec (ws := wsX6_empty) B.pre
  have hown : s.vm.findClass RX6 = some m.cls := findClass_of_methodNamed B.named
  have hlocks := B.notSynchronized
  subst hsz
  have hD := hD0.self (sz := s.heap.size)
  generalize hAe : va_A [(mo, .inr (6, [.ref apg, .int (nI P), .int ea, .int (nI K), .int (nI Hn), .int ym, .int tm, .ref arw, .ref ans, .ref aro, .ref abo, .int (nI Sm), .ref asi, .int sd, .ref asv, .int kt, .int ky, .int (nI ks), .ref akr, .ref akn, .ref aks, .long ha])), (ans, .inl (cI, 20, .inl ns))] s.heap.size = A at hD ⊢
  have hA : ∀ q : Nat, s.heap.size ≤ q → A q := fun q h => by rw [← hAe]; exact Or.inr h
  have hS : va_S A s.heap s.heap [] := va_S.rf
  have hP : va_P D vwCl [(mo, .inr (6, [.ref apg, .int (nI P), .int ea, .int (nI K), .int (nI Hn), .int ym, .int tm, .ref arw, .ref ans, .ref aro, .ref abo, .int (nI Sm), .ref asi, .int sd, .ref asv, .int kt, .int ky, .int (nI ks), .ref akr, .ref akn, .ref aks, .long ha])), (ans, .inl (cI, 20, .inl ns))] s.heap := hP
  have hD : va_D A [(mo, .inr (6, [.ref apg, .int (nI P), .int ea, .int (nI K), .int (nI Hn), .int ym, .int tm, .ref arw, .ref ans, .ref aro, .ref abo, .int (nI Sm), .ref asi, .int sd, .ref asv, .int kt, .int ky, .int (nI ks), .ref akr, .ref akn, .ref aks, .long ha])), (ans, .inl (cI, 20, .inl ns))] := hD
  have hl := lv_entry ([.ref mo, .int (nI h)]) (n := 2) (Nat.le_of_ble_eq_true rfl)
  rw [lg_entry_eq]
  generalize (lg_sl ([.ref mo, .int (nI h)]) ++ List.replicate (2 - (lg_sl ([.ref mo, .int (nI h)])).length) Slot.unset).toArray = ls at hl ⊢
  have hl : lv_has ls 2 [(0, .ref mo), (1, .int (nI h))] := hl
  have hinX6 : ∀ w ∈ wsX60, w ∈ wsX6_empty := fun w h => List.mem_cons_of_mem _ (List.mem_append_right _ h)
  have k_0 := hts (.fieldLink RX6 16 "VowDovesModel" "nests" "[I") (by decide +kernel)
  refine lv_aload_n hx hb dX6_empty_0 rfl (lv_at hl 0 rfl) ?_
  refine va_get (D := D) (ci := 6) (v := .ref ans) (C := RX6) (T := TX6) (N := 22) hx hb hts hinX6 hown hE.1 hP 0 rfl rfl 8 (by decide) k_0 (fun _ h9 => h9) rfl dX6_empty_1 ?_
  refine lv_iconst (v := 4) hx hb dX6_empty_4 (by decide) ?_
  refine lv_iload_n hx hb dX6_empty_5 rfl (lv_at hl 1 rfl) ?_
  refine z_imulN hx hb (a := 4) (b := h) rfl rfl dX6_empty_6 ?_
  refine lv_iconst (v := 1) hx hb dX6_empty_7 (by decide) ?_
  refine z_iaddN hx hb (a := 4 * h) (b := 1) rfl rfl dX6_empty_8 ?_
  refine lv_iconst (v := (-1)) hx hb dX6_empty_9 (by decide) ?_
  refine z_iast hx hb hE hP hD hS 1 rfl (j := (4 * h) + 1) rfl (by omega) (by decide) dX6_empty_10 (fun H locs hP hD hS => ?_)
  have hP : va_P D vwCl [(mo, .inr (6, [.ref apg, .int (nI P), .int ea, .int (nI K), .int (nI Hn), .int ym, .int tm, .ref arw, .ref ans, .ref aro, .ref abo, .int (nI Sm), .ref asi, .int sd, .ref asv, .int kt, .int ky, .int (nI ks), .ref akr, .ref akn, .ref aks, .long ha])), (ans, .inl (cI, 20, .inl (upd ns ((4 * h) + 1) (-1))))] H := hP
  have hD : va_D A [(mo, .inr (6, [.ref apg, .int (nI P), .int ea, .int (nI K), .int (nI Hn), .int ym, .int tm, .ref arw, .ref ans, .ref aro, .ref abo, .int (nI Sm), .ref asi, .int sd, .ref asv, .int kt, .int ky, .int (nI ks), .ref akr, .ref akn, .ref aks, .long ha])), (ans, .inl (cI, 20, .inl (upd ns ((4 * h) + 1) (-1))))] := hD
  refine lv_aload_n hx hb dX6_empty_11 rfl (lv_at hl 0 rfl) ?_
  refine va_get (D := D) (ci := 6) (v := .ref ans) (C := RX6) (T := TX6) (N := 22) hx hb hts hinX6 hown hE.1 hP 0 rfl rfl 8 (by decide) k_0 (fun _ h9 => h9) rfl dX6_empty_12 ?_
  refine lv_iconst (v := 4) hx hb dX6_empty_15 (by decide) ?_
  refine lv_iload_n hx hb dX6_empty_16 rfl (lv_at hl 1 rfl) ?_
  refine z_imulN hx hb (a := 4) (b := h) rfl rfl dX6_empty_17 ?_
  refine lv_iconst (v := 2) hx hb dX6_empty_18 (by decide) ?_
  refine z_iaddN hx hb (a := 4 * h) (b := 2) rfl rfl dX6_empty_19 ?_
  refine lv_iconst (v := 0) hx hb dX6_empty_20 (by decide) ?_
  refine z_iast hx hb hE hP hD hS 1 rfl (j := (4 * h) + 2) rfl (by omega) (by decide) dX6_empty_21 (fun H locs hP hD hS => ?_)
  have hP : va_P D vwCl [(mo, .inr (6, [.ref apg, .int (nI P), .int ea, .int (nI K), .int (nI Hn), .int ym, .int tm, .ref arw, .ref ans, .ref aro, .ref abo, .int (nI Sm), .ref asi, .int sd, .ref asv, .int kt, .int ky, .int (nI ks), .ref akr, .ref akn, .ref aks, .long ha])), (ans, .inl (cI, 20, .inl (upd (upd ns ((4 * h) + 1) (-1)) ((4 * h) + 2) 0)))] H := hP
  have hD : va_D A [(mo, .inr (6, [.ref apg, .int (nI P), .int ea, .int (nI K), .int (nI Hn), .int ym, .int tm, .ref arw, .ref ans, .ref aro, .ref abo, .int (nI Sm), .ref asi, .int sd, .ref asv, .int kt, .int ky, .int (nI ks), .ref akr, .ref akn, .ref aks, .long ha])), (ans, .inl (cI, 20, .inl (upd (upd ns ((4 * h) + 1) (-1)) ((4 * h) + 2) 0)))] := hD
  refine lv_aload_n hx hb dX6_empty_22 rfl (lv_at hl 0 rfl) ?_
  refine va_get (D := D) (ci := 6) (v := .ref ans) (C := RX6) (T := TX6) (N := 22) hx hb hts hinX6 hown hE.1 hP 0 rfl rfl 8 (by decide) k_0 (fun _ h9 => h9) rfl dX6_empty_23 ?_
  refine lv_iconst (v := 4) hx hb dX6_empty_26 (by decide) ?_
  refine lv_iload_n hx hb dX6_empty_27 rfl (lv_at hl 1 rfl) ?_
  refine z_imulN hx hb (a := 4) (b := h) rfl rfl dX6_empty_28 ?_
  refine lv_iconst (v := 3) hx hb dX6_empty_29 (by decide) ?_
  refine z_iaddN hx hb (a := 4 * h) (b := 3) rfl rfl dX6_empty_30 ?_
  refine lv_iconst (v := 0) hx hb dX6_empty_31 (by decide) ?_
  refine z_iast hx hb hE hP hD hS 1 rfl (j := (4 * h) + 3) rfl (by omega) (by decide) dX6_empty_32 (fun H locs hP hD hS => ?_)
  have hP : va_P D vwCl [(mo, .inr (6, [.ref apg, .int (nI P), .int ea, .int (nI K), .int (nI Hn), .int ym, .int tm, .ref arw, .ref ans, .ref aro, .ref abo, .int (nI Sm), .ref asi, .int sd, .ref asv, .int kt, .int ky, .int (nI ks), .ref akr, .ref akn, .ref aks, .long ha])), (ans, .inl (cI, 20, .inl (upd (upd (upd ns ((4 * h) + 1) (-1)) ((4 * h) + 2) 0) ((4 * h) + 3) 0)))] H := hP
  have hD : va_D A [(mo, .inr (6, [.ref apg, .int (nI P), .int ea, .int (nI K), .int (nI Hn), .int ym, .int tm, .ref arw, .ref ans, .ref aro, .ref abo, .int (nI Sm), .ref asi, .int sd, .ref asv, .int kt, .int ky, .int (nI ks), .ref akr, .ref akn, .ref aks, .long ha])), (ans, .inl (cI, 20, .inl (upd (upd (upd ns ((4 * h) + 1) (-1)) ((4 * h) + 2) 0) ((4 * h) + 3) 0)))] := hD
  have hP9 := hP.sub (ws' := [(mo, .inr (6, [.ref apg, .int (nI P), .int ea, .int (nI K), .int (nI Hn), .int ym, .int tm, .ref arw, .ref ans, .ref aro, .ref abo, .int (nI Sm), .ref asi, .int sd, .ref asv, .int kt, .int ky, .int (nI ks), .ref akr, .ref akn, .ref aks, .long ha])), (ans, .inl (cI, 20, .inl (upd (upd (upd ns (4 * h + 1) (-1)) (4 * h + 2) 0) (4 * h + 3) 0)))]) [0, 1] rfl
  have hD9 := hD.sub (ws' := [(mo, .inr (6, [.ref apg, .int (nI P), .int ea, .int (nI K), .int (nI Hn), .int ym, .int tm, .ref arw, .ref ans, .ref aro, .ref abo, .int (nI Sm), .ref asi, .int sd, .ref asv, .int kt, .int ky, .int (nI ks), .ref akr, .ref akn, .ref aks, .long ha])), (ans, .inl (cI, 20, .inl (upd (upd (upd ns (4 * h + 1) (-1)) (4 * h + 2) 0) (4 * h + 3) 0)))]) [0, 1] (by decide) rfl
  exact W.vret hx hb hr (fun t ht hW => ⟨⟨(), rfl, trivial, by rw [ht]; exact hP9, hD9⟩, hS.F ht⟩) hS.2.2 dX6_empty_33

set_option maxHeartbeats 4000000 in
set_option maxRecDepth 100000 in
theorem c_X6_say (l : Launch) (D : va_G) (cI cZ cA : ClassId) (sz : Nat) (mo : Nat) (apg : Nat) (P : Nat) (ea : Int32) (K : Nat) (Hn : Nat) (ym : Int32) (tm : Int32) (arw : Nat) (ans : Nat) (aro : Nat) (abo : Nat) (Sm : Nat) (asi : Nat) (sd : Int32) (asv : Nat) (kt : Int32) (ky : Int32) (ks : Nat) (akr : Nat) (akn : Nat) (aks : Nat) (ha : Int64) (v0 : Int64)  : Met l yX6_say wsX6_say (zr 1) (va_Pc [.ref mo, .long v0] (zPw D cI cZ cA [(mo, .inr (6, [.ref apg, .int (nI P), .int ea, .int (nI K), .int (nI Hn), .int ym, .int tm, .ref arw, .ref ans, .ref aro, .ref abo, .int (nI Sm), .ref asi, .int sd, .ref asv, .int kt, .int ky, .int (nI ks), .ref akr, .ref akn, .ref aks, .long ha]))] sz)) (va_Qv (fun (_ : Unit) => True) (zB D [(mo, .inr (6, [.ref apg, .int (nI P), .int ea, .int (nI K), .int (nI Hn), .int ym, .int tm, .ref arw, .ref ans, .ref aro, .ref abo, .int (nI Sm), .ref asi, .int sd, .ref asv, .int kt, .int ky, .int (nI ks), .ref akr, .ref akn, .ref aks, .long (31 * ha + v0)]))] (va_A [(mo, .inr (6, [.ref apg, .int (nI P), .int ea, .int (nI K), .int (nI Hn), .int ym, .int tm, .ref arw, .ref ans, .ref aro, .ref abo, .int (nI Sm), .ref asi, .int sd, .ref asv, .int kt, .int ky, .int (nI ks), .ref akr, .ref akn, .ref aks, .long ha]))] sz)) (va_A [(mo, .inr (6, [.ref apg, .int (nI P), .int ea, .int (nI K), .int (nI Hn), .int ym, .int tm, .ref arw, .ref ans, .ref aro, .ref abo, .int (nI Sm), .ref asi, .int sd, .ref asv, .int kt, .int ky, .int (nI ks), .ref akr, .ref akn, .ref aks, .long ha]))] sz)) 0 0 (va_A [(mo, .inr (6, [.ref apg, .int (nI P), .int ea, .int (nI K), .int (nI Hn), .int ym, .int tm, .ref arw, .ref ans, .ref aro, .ref abo, .int (nI Sm), .ref asi, .int sd, .ref asv, .int kt, .int ky, .int (nI ks), .ref akr, .ref akn, .ref aks, .long ha]))] sz) := by
  refine Met.ofW (cc := cX6_say) (maxL := 3) (ret := none) (by decide) rfl ?_
  intro p e s m args below meth c s₁ B hml hv
  obtain ⟨rfl, hsz, hP, hD0, hE⟩ := hv
  have hx := B.exec
  have hb := B.bytes
  have hr := B.returns
  have hts := atoms_spec (ws := wsX6_say) B.pre
  have hown : s.vm.findClass RX6 = some m.cls := findClass_of_methodNamed B.named
  have hlocks := B.notSynchronized
  subst hsz
  have hD := hD0.self (sz := s.heap.size)
  generalize hAe : va_A [(mo, .inr (6, [.ref apg, .int (nI P), .int ea, .int (nI K), .int (nI Hn), .int ym, .int tm, .ref arw, .ref ans, .ref aro, .ref abo, .int (nI Sm), .ref asi, .int sd, .ref asv, .int kt, .int ky, .int (nI ks), .ref akr, .ref akn, .ref aks, .long ha]))] s.heap.size = A at hD ⊢
  have hA : ∀ q : Nat, s.heap.size ≤ q → A q := fun q h => by rw [← hAe]; exact Or.inr h
  have hS : va_S A s.heap s.heap [] := va_S.rf
  have hP : va_P D vwCl [(mo, .inr (6, [.ref apg, .int (nI P), .int ea, .int (nI K), .int (nI Hn), .int ym, .int tm, .ref arw, .ref ans, .ref aro, .ref abo, .int (nI Sm), .ref asi, .int sd, .ref asv, .int kt, .int ky, .int (nI ks), .ref akr, .ref akn, .ref aks, .long ha]))] s.heap := hP
  have hD : va_D A [(mo, .inr (6, [.ref apg, .int (nI P), .int ea, .int (nI K), .int (nI Hn), .int ym, .int tm, .ref arw, .ref ans, .ref aro, .ref abo, .int (nI Sm), .ref asi, .int sd, .ref asv, .int kt, .int ky, .int (nI ks), .ref akr, .ref akn, .ref aks, .long ha]))] := hD
  have hl := lv_entry ([.ref mo, .long v0]) (n := 3) (Nat.le_of_ble_eq_true rfl)
  rw [lg_entry_eq]
  generalize (lg_sl ([.ref mo, .long v0]) ++ List.replicate (3 - (lg_sl ([.ref mo, .long v0])).length) Slot.unset).toArray = ls at hl ⊢
  have hl : lv_has ls 3 [(0, .ref mo), (1, .long v0)] := hl
  have hinX6 : ∀ w ∈ wsX60, w ∈ wsX6_say := fun w h => List.mem_cons_of_mem _ (List.mem_append_right _ h)
  have k_0 := hts (.constantLong RX6 203 (31)) (by decide +kernel)
  have k_1 := hts (.fieldLink RX6 205 "VowDovesModel" "hash" "J") (by decide +kernel)
  refine lv_aload_n hx hb dX6_say_0 rfl (lv_at hl 0 rfl) ?_
  refine lv_ldc2 (v := 31) hx hb hown k_0 dX6_say_1 ?_
  refine lv_aload_n hx hb dX6_say_4 rfl (lv_at hl 0 rfl) ?_
  refine va_get (D := D) (ci := 6) (v := .long ha) (C := RX6) (T := TX6) (N := 22) hx hb hts hinX6 hown hE.1 hP 0 rfl rfl 21 (by decide) k_1 (fun _ h9 => h9) rfl dX6_say_5 ?_
  refine lv_lmul hx hb dX6_say_8 ?_
  refine lv_lload_n hx hb dX6_say_9 rfl (lv_at hl 1 rfl) ?_
  refine lv_ladd hx hb dX6_say_10 ?_
  refine va_put (D := D) (ci := 6) (v := .long ((31 * ha) + v0)) (ty := .long) (C := RX6) (T := TX6) (N := 22) hx hb hts hinX6 tyX6 tyX6_ok nmX6 hown hE.1 hP hD hS 0 rfl rfl 21 (by decide) k_1 (fun _ h9 => h9) rfl (by decide +kernel) rfl rfl (Nat.le_of_ble_eq_true rfl) dX6_say_11 (fun H locs hP hD hS => ?_)
  have hP : va_P D vwCl [(mo, .inr (6, [.ref apg, .int (nI P), .int ea, .int (nI K), .int (nI Hn), .int ym, .int tm, .ref arw, .ref ans, .ref aro, .ref abo, .int (nI Sm), .ref asi, .int sd, .ref asv, .int kt, .int ky, .int (nI ks), .ref akr, .ref akn, .ref aks, .long ((31 * ha) + v0)]))] H := hP
  have hD : va_D A [(mo, .inr (6, [.ref apg, .int (nI P), .int ea, .int (nI K), .int (nI Hn), .int ym, .int tm, .ref arw, .ref ans, .ref aro, .ref abo, .int (nI Sm), .ref asi, .int sd, .ref asv, .int kt, .int ky, .int (nI ks), .ref akr, .ref akn, .ref aks, .long ((31 * ha) + v0)]))] := hD
  have hP9 := hP.sub (ws' := [(mo, .inr (6, [.ref apg, .int (nI P), .int ea, .int (nI K), .int (nI Hn), .int ym, .int tm, .ref arw, .ref ans, .ref aro, .ref abo, .int (nI Sm), .ref asi, .int sd, .ref asv, .int kt, .int ky, .int (nI ks), .ref akr, .ref akn, .ref aks, .long (31 * ha + v0)]))]) [0] rfl
  have hD9 := hD.sub (ws' := [(mo, .inr (6, [.ref apg, .int (nI P), .int ea, .int (nI K), .int (nI Hn), .int ym, .int tm, .ref arw, .ref ans, .ref aro, .ref abo, .int (nI Sm), .ref asi, .int sd, .ref asv, .int kt, .int ky, .int (nI ks), .ref akr, .ref akn, .ref aks, .long (31 * ha + v0)]))]) [0] (by decide) rfl
  exact W.vret hx hb hr (fun t ht hW => ⟨⟨(), rfl, trivial, by rw [ht]; exact hP9, hD9⟩, hS.F ht⟩) hS.2.2 dX6_say_14

set_option maxHeartbeats 4000000 in
set_option maxRecDepth 100000 in
theorem c_X6_waysBy (l : Launch) (D : va_G) (cI cZ cA : ClassId) (mo : Nat) (apg : Nat) (P : Nat) (ea : Int32) (K : Nat) (Hn : Nat) (ym : Int32) (tm : Int32) (arw : Nat) (ans : Nat) (aro : Nat) (abo : Nat) (Sm : Nat) (asi : Nat) (sd : Int32) (asv : Nat) (kt : Int32) (ky : Int32) (ks : Nat) (akr : Nat) (akn : Nat) (aks : Nat) (ha : Int64) (rw : Nat → Int32) (si : Nat → Int32) (k : Nat) (fa0 : Int32) (hk : k < 5) (hS8 : Sm ≤ 8) : Met l yX6_waysBy wsX6_waysBy (zr 2) (va_Pc [.ref mo, .int (nI k), .int fa0] (zPr D cI cZ cA [(mo, .inr (6, [.ref apg, .int (nI P), .int ea, .int (nI K), .int (nI Hn), .int ym, .int tm, .ref arw, .ref ans, .ref aro, .ref abo, .int (nI Sm), .ref asi, .int sd, .ref asv, .int kt, .int ky, .int (nI ks), .ref akr, .ref akn, .ref aks, .long ha])), (arw, .inl (cI, 15, .inl rw)), (asi, .inl (cI, 24, .inl si))])) (vp_Sl (fun r => r = wayN rw si k fa0 Sm)) 0 0 (fun _ => False) := by
  refine Met.ofW (cc := cX6_waysBy) (maxL := 7) (ret := (some .long)) (by decide) rfl ?_
  intro p e s m args below meth c s₁ B hml hv
  obtain ⟨rfl, hP, hE⟩ := hv
  have hx := B.exec
  have hb := B.bytes
  have hr := B.returns
  have hts := atoms_spec (ws := wsX6_waysBy) B.pre
  have hown : s.vm.findClass RX6 = some m.cls := findClass_of_methodNamed B.named
  have hlocks := B.notSynchronized
  have hP : va_P D vwCl [(mo, .inr (6, [.ref apg, .int (nI P), .int ea, .int (nI K), .int (nI Hn), .int ym, .int tm, .ref arw, .ref ans, .ref aro, .ref abo, .int (nI Sm), .ref asi, .int sd, .ref asv, .int kt, .int ky, .int (nI ks), .ref akr, .ref akn, .ref aks, .long ha])), (arw, .inl (cI, 15, .inl rw)), (asi, .inl (cI, 24, .inl si))] s.heap := hP
  have hl := lv_entry ([.ref mo, .int (nI k), .int fa0]) (n := 7) (Nat.le_of_ble_eq_true rfl)
  rw [lg_entry_eq]
  generalize (lg_sl ([.ref mo, .int (nI k), .int fa0]) ++ List.replicate (7 - (lg_sl ([.ref mo, .int (nI k), .int fa0])).length) Slot.unset).toArray = ls at hl ⊢
  have hl : lv_has ls 7 [(0, .ref mo), (1, .int (nI k)), (2, .int fa0)] := hl
  have hinX6 : ∀ w ∈ wsX60, w ∈ wsX6_waysBy := fun w h => List.mem_cons_of_mem _ (List.mem_append_right _ h)
  have k_0 := hts (.fieldLink RX6 85 "VowDovesModel" "seenMany" "I") (by decide +kernel)
  have k_1 := hts (.fieldLink RX6 13 "VowDovesModel" "rows" "[I") (by decide +kernel)
  have k_2 := hts (.fieldLink RX6 25 "VowDovesModel" "sights" "[I") (by decide +kernel)
  refine lv_lconst (v := 1) hx hb dX6_waysBy_0 (by decide) ?_
  refine lv_lstore_n (lv' := [(3, .long 1), (0, .ref mo), (1, .int (nI k)), (2, .int fa0)]) hx hb dX6_waysBy_1 rfl hl (by decide) rfl (fun ls hl => ?_)
  refine lv_iconst (v := 0) hx hb dX6_waysBy_2 (by decide) ?_
  refine lv_istore (lv' := [(5, .int 0), (3, .long 1), (0, .ref mo), (1, .int (nI k)), (2, .int fa0)]) hx hb dX6_waysBy_3 hl (by decide) rfl (fun ls hl => ?_)
  have hc5_1 : ∀ (n : Nat) (i : Nat), (i ≤ Sm) → (Sm + 1 ≤ i + n) → ∀ (w2 : Int64), w2 = wayN rw si k fa0 i → ∀ (w3 : Int32), w3 = nI i → ∀ (ls : Array Slot), lv_has ls 7 [(5, .int w3), (3, .long w2), (0, .ref mo), (1, .int (nI k)), (2, .int fa0)] → W p l e (headSpec wsX6_waysBy (zr 2)).room s m ([.ref mo, .int (nI k), .int fa0] : List Value).toArray below meth c s.heap [] 0 0 (MQ below (vp_Sl (fun r => r = wayN rw si k fa0 Sm)) ([.ref mo, .int (nI k), .int fa0] : List Value).toArray s 0 0 (fun _ => False)) (F0 m 5 ls []) := by
    intro n
    induction n with
    | zero => intro i hi hfu; exact absurd hfu (by omega)
    | succ n ihhc5_1 =>
      intro i hi hfu w2 ew2 w3 ew3 ls hl
      subst ew2
      subst ew3
      refine lv_iload hx hb dX6_waysBy_5 (lv_at hl 0 rfl) ?_
      refine lv_aload_n hx hb dX6_waysBy_7 rfl (lv_at hl 2 rfl) ?_
      refine va_get (D := D) (ci := 6) (v := .int (nI Sm)) (C := RX6) (T := TX6) (N := 22) hx hb hts hinX6 hown hE.1 hP 0 rfl rfl 11 (by decide) k_0 (fun _ h9 => h9) rfl dX6_waysBy_8 ?_
      refine lv_icmp_ge (tgt := 92) hx hb dX6_waysBy_11 (by decide) (fun c_11 => ?_) (fun c_11 => ?_)
      · have n_11 := zn_le (a := Sm) (b := i) rfl rfl c_11 (by omega) (by omega)
        obtain rfl : Sm = i := by omega
        refine lv_lload_n hx hb dX6_waysBy_92 rfl (lv_at hl 1 rfl) ?_
        exact W.lret (v := wayN rw si k fa0 Sm) hx hb hr (fun t ht hW => ⟨(wayN rw si k fa0 Sm), rfl, rfl, ht⟩) (fun q h => by cases h) dX6_waysBy_93
      · have n_11 := zn_nle (a := Sm) (b := i) rfl rfl c_11 (by omega) (by omega)
        refine lv_aload_n hx hb dX6_waysBy_14 rfl (lv_at hl 2 rfl) ?_
        refine va_get (D := D) (ci := 6) (v := .ref arw) (C := RX6) (T := TX6) (N := 22) hx hb hts hinX6 hown hE.1 hP 0 rfl rfl 7 (by decide) k_1 (fun _ h9 => h9) rfl dX6_waysBy_15 ?_
        refine lv_iconst (v := 3) hx hb dX6_waysBy_18 (by decide) ?_
        refine lv_iload_n hx hb dX6_waysBy_19 rfl (lv_at hl 3 rfl) ?_
        refine z_imulN hx hb (a := 3) (b := k) rfl rfl dX6_waysBy_20 ?_
        refine z_iald hx hb hE hP 1 rfl (j := 3 * k) rfl (by omega) (by decide) dX6_waysBy_21 ?_
        refine lv_iload_n hx hb dX6_waysBy_22 rfl (lv_at hl 4 rfl) ?_
        refine lv_aload_n hx hb dX6_waysBy_23 rfl (lv_at hl 2 rfl) ?_
        refine va_get (D := D) (ci := 6) (v := .ref asi) (C := RX6) (T := TX6) (N := 22) hx hb hts hinX6 hown hE.1 hP 0 rfl rfl 12 (by decide) k_2 (fun _ h9 => h9) rfl dX6_waysBy_24 ?_
        refine lv_iconst (v := 3) hx hb dX6_waysBy_27 (by decide) ?_
        refine lv_iload hx hb dX6_waysBy_28 (lv_at hl 0 rfl) ?_
        refine z_imulN hx hb (a := 3) (b := i) rfl rfl dX6_waysBy_30 ?_
        refine lv_iconst (v := 1) hx hb dX6_waysBy_31 (by decide) ?_
        refine z_iaddN hx hb (a := 3 * i) (b := 1) rfl rfl dX6_waysBy_32 ?_
        refine z_iald hx hb hE hP 2 rfl (j := (3 * i) + 1) rfl (by omega) (by decide) dX6_waysBy_33 ?_
        refine z_roSi (As := [.int (rw (3 * k)), .int fa0, .int (si ((3 * i) + 1))]) (rest := []) ⟨hx, hb, hml, hown, hts⟩ (c_X6_tenthsBy l D cI cZ cA (rw (3 * k)) fa0 (si ((3 * i) + 1)) ) (va_cwS 3 hts gX6_waysBy_X6_tenthsBy rfl rfl rfl (by decide +kernel) ⟨Nat.le_of_ble_eq_true rfl, Nat.le_of_ble_eq_true rfl⟩) hE hP [] rfl rfl hl.1 rfl (Nat.le_of_ble_eq_true rfl) dX6_waysBy_34 ⟨Nat.zero_le _, Nat.zero_le _⟩ ?_
        refine lv_istore (lv' := [(6, .int (tb (rw (3 * k)) fa0 (si ((3 * i) + 1)))), (5, .int (nI i)), (3, .long (wayN rw si k fa0 i)), (0, .ref mo), (1, .int (nI k)), (2, .int fa0)]) hx hb dX6_waysBy_37 hl (by decide) rfl (fun ls hl => ?_)
        refine lv_lload_n hx hb dX6_waysBy_39 rfl (lv_at hl 2 rfl) ?_
        refine lv_aload_n hx hb dX6_waysBy_40 rfl (lv_at hl 3 rfl) ?_
        refine va_get (D := D) (ci := 6) (v := .ref asi) (C := RX6) (T := TX6) (N := 22) hx hb hts hinX6 hown hE.1 hP 0 rfl rfl 12 (by decide) k_2 (fun _ h9 => h9) rfl dX6_waysBy_41 ?_
        refine lv_iconst (v := 3) hx hb dX6_waysBy_44 (by decide) ?_
        refine lv_iload hx hb dX6_waysBy_45 (lv_at hl 1 rfl) ?_
        refine z_imulN hx hb (a := 3) (b := i) rfl rfl dX6_waysBy_47 ?_
        refine z_iald hx hb hE hP 2 rfl (j := 3 * i) rfl (by omega) (by decide) dX6_waysBy_48 ?_
        refine lv_iload_n hx hb dX6_waysBy_49 rfl (lv_at hl 4 rfl) ?_
        refine lv_icmp_eq (tgt := 57) hx hb dX6_waysBy_50 (by decide) (fun c_50 => ?_) (fun c_50 => ?_)
        · refine lv_aload_n hx hb dX6_waysBy_57 rfl (lv_at hl 3 rfl) ?_
          refine va_get (D := D) (ci := 6) (v := .ref asi) (C := RX6) (T := TX6) (N := 22) hx hb hts hinX6 hown hE.1 hP 0 rfl rfl 12 (by decide) k_2 (fun _ h9 => h9) rfl dX6_waysBy_58 ?_
          refine lv_iconst (v := 3) hx hb dX6_waysBy_61 (by decide) ?_
          refine lv_iload hx hb dX6_waysBy_62 (lv_at hl 1 rfl) ?_
          refine z_imulN hx hb (a := 3) (b := i) rfl rfl dX6_waysBy_64 ?_
          refine lv_iconst (v := 2) hx hb dX6_waysBy_65 (by decide) ?_
          refine z_iaddN hx hb (a := 3 * i) (b := 2) rfl rfl dX6_waysBy_66 ?_
          refine z_iald hx hb hE hP 2 rfl (j := (3 * i) + 2) rfl (by omega) (by decide) dX6_waysBy_67 ?_
          refine lv_iconst (v := 1) hx hb dX6_waysBy_68 (by decide) ?_
          refine lv_icmp_ne (tgt := 78) hx hb dX6_waysBy_69 (by decide) (fun c_69 => ?_) (fun c_69 => ?_)
          · refine lv_bipush (v := 10) hx hb dX6_waysBy_78 (by decide) ?_
            refine lv_iload hx hb dX6_waysBy_80 (lv_at hl 0 rfl) ?_
            refine lv_isub hx hb dX6_waysBy_82 ?_
            refine lv_i2l (v := (10 - (tb (rw (3 * k)) fa0 (si ((3 * i) + 1))) : Int32).toInt64) hx hb dX6_waysBy_83 rfl ?_
            refine lv_lmul hx hb dX6_waysBy_84 ?_
            refine lv_lstore_n (lv' := [(3, .long ((wayN rw si k fa0 i) * ((10 - (tb (rw (3 * k)) fa0 (si ((3 * i) + 1))) : Int32).toInt64))), (6, .int (tb (rw (3 * k)) fa0 (si ((3 * i) + 1)))), (5, .int (nI i)), (0, .ref mo), (1, .int (nI k)), (2, .int fa0)]) hx hb dX6_waysBy_85 rfl hl (by decide) rfl (fun ls hl => ?_)
            refine lv_iinc (v := nI (i + 1)) (lv' := [(5, .int (nI (i + 1))), (3, .long ((wayN rw si k fa0 i) * ((10 - (tb (rw (3 * k)) fa0 (si ((3 * i) + 1))) : Int32).toInt64))), (6, .int (tb (rw (3 * k)) fa0 (si ((3 * i) + 1)))), (0, .ref mo), (1, .int (nI k)), (2, .int fa0)]) hx hb dX6_waysBy_86 hl (k := 2) rfl (nI_add i 1) (by decide) rfl (fun ls hl => ?_)
            refine lv_goto (tgt := 5) hx hb dX6_waysBy_89 (by decide) ?_
            exact ihhc5_1 (i + 1) (by omega) (by omega) ((wayN rw si k fa0 i) * ((10 - (tb (rw (3 * k)) fa0 (si ((3 * i) + 1))) : Int32).toInt64)) (by simp [wayN, c_50, c_69]) (nI (i + 1)) rfl ls (lv_sub hl [0, 1, 3, 4, 5] rfl)
          · refine lv_iload hx hb dX6_waysBy_72 (lv_at hl 0 rfl) ?_
            refine lv_i2l (v := ((tb (rw (3 * k)) fa0 (si ((3 * i) + 1))) : Int32).toInt64) hx hb dX6_waysBy_74 rfl ?_
            refine lv_goto (tgt := 84) hx hb dX6_waysBy_75 (by decide) ?_
            refine lv_lmul hx hb dX6_waysBy_84 ?_
            refine lv_lstore_n (lv' := [(3, .long ((wayN rw si k fa0 i) * (((tb (rw (3 * k)) fa0 (si ((3 * i) + 1))) : Int32).toInt64))), (6, .int (tb (rw (3 * k)) fa0 (si ((3 * i) + 1)))), (5, .int (nI i)), (0, .ref mo), (1, .int (nI k)), (2, .int fa0)]) hx hb dX6_waysBy_85 rfl hl (by decide) rfl (fun ls hl => ?_)
            refine lv_iinc (v := nI (i + 1)) (lv' := [(5, .int (nI (i + 1))), (3, .long ((wayN rw si k fa0 i) * (((tb (rw (3 * k)) fa0 (si ((3 * i) + 1))) : Int32).toInt64))), (6, .int (tb (rw (3 * k)) fa0 (si ((3 * i) + 1)))), (0, .ref mo), (1, .int (nI k)), (2, .int fa0)]) hx hb dX6_waysBy_86 hl (k := 2) rfl (nI_add i 1) (by decide) rfl (fun ls hl => ?_)
            refine lv_goto (tgt := 5) hx hb dX6_waysBy_89 (by decide) ?_
            exact ihhc5_1 (i + 1) (by omega) (by omega) ((wayN rw si k fa0 i) * (((tb (rw (3 * k)) fa0 (si ((3 * i) + 1))) : Int32).toInt64)) (by simp [wayN, c_50, c_69]) (nI (i + 1)) rfl ls (lv_sub hl [0, 1, 3, 4, 5] rfl)
        · refine lv_lconst (v := 1) hx hb dX6_waysBy_53 (by decide) ?_
          refine lv_goto (tgt := 84) hx hb dX6_waysBy_54 (by decide) ?_
          refine lv_lmul hx hb dX6_waysBy_84 ?_
          refine lv_lstore_n (lv' := [(3, .long ((wayN rw si k fa0 i) * 1)), (6, .int (tb (rw (3 * k)) fa0 (si ((3 * i) + 1)))), (5, .int (nI i)), (0, .ref mo), (1, .int (nI k)), (2, .int fa0)]) hx hb dX6_waysBy_85 rfl hl (by decide) rfl (fun ls hl => ?_)
          refine lv_iinc (v := nI (i + 1)) (lv' := [(5, .int (nI (i + 1))), (3, .long ((wayN rw si k fa0 i) * 1)), (6, .int (tb (rw (3 * k)) fa0 (si ((3 * i) + 1)))), (0, .ref mo), (1, .int (nI k)), (2, .int fa0)]) hx hb dX6_waysBy_86 hl (k := 2) rfl (nI_add i 1) (by decide) rfl (fun ls hl => ?_)
          refine lv_goto (tgt := 5) hx hb dX6_waysBy_89 (by decide) ?_
          exact ihhc5_1 (i + 1) (by omega) (by omega) ((wayN rw si k fa0 i) * 1) (by simp [wayN, c_50]) (nI (i + 1)) rfl ls (lv_sub hl [0, 1, 3, 4, 5] rfl)
  exact hc5_1 (Sm + 1) 0 (by omega) (by omega) 1 rfl 0 rfl ls (lv_sub hl [0, 1, 2, 3, 4] rfl)

set_option maxHeartbeats 4000000 in
set_option maxRecDepth 100000 in
theorem c_X6_faithsOf (l : Launch) (D : va_G) (cI cZ cA : ClassId) (mo : Nat) (apg : Nat) (P : Nat) (ea : Int32) (K : Nat) (Hn : Nat) (ym : Int32) (tm : Int32) (arw : Nat) (ans : Nat) (aro : Nat) (abo : Nat) (Sm : Nat) (asi : Nat) (sd : Int32) (asv : Nat) (kt : Int32) (ky : Int32) (ks : Nat) (akr : Nat) (akn : Nat) (aks : Nat) (ha : Int64) (rw : Nat → Int32) (si : Nat → Int32) (k : Nat) (hk : k < 5) (hS8 : Sm ≤ 8) : Met l yX6_faithsOf wsX6_faithsOf (zr 3) (va_Pc [.ref mo, .int (nI k)] (zPr D cI cZ cA [(mo, .inr (6, [.ref apg, .int (nI P), .int ea, .int (nI K), .int (nI Hn), .int ym, .int tm, .ref arw, .ref ans, .ref aro, .ref abo, .int (nI Sm), .ref asi, .int sd, .ref asv, .int kt, .int ky, .int (nI ks), .ref akr, .ref akn, .ref aks, .long ha])), (arw, .inl (cI, 15, .inl rw)), (asi, .inl (cI, 24, .inl si))])) (vp_Si (fun r => r = faiN (fun v => wayN rw si k (nI v) Sm) 10)) 0 0 (fun _ => False) := by
  refine Met.ofW (cc := cX6_faithsOf) (maxL := 4) (ret := (some .int)) (by decide) rfl ?_
  intro p e s m args below meth c s₁ B hml hv
  obtain ⟨rfl, hP, hE⟩ := hv
  have hx := B.exec
  have hb := B.bytes
  have hr := B.returns
  have hts := atoms_spec (ws := wsX6_faithsOf) B.pre
  have hown : s.vm.findClass RX6 = some m.cls := findClass_of_methodNamed B.named
  have hlocks := B.notSynchronized
  have hP : va_P D vwCl [(mo, .inr (6, [.ref apg, .int (nI P), .int ea, .int (nI K), .int (nI Hn), .int ym, .int tm, .ref arw, .ref ans, .ref aro, .ref abo, .int (nI Sm), .ref asi, .int sd, .ref asv, .int kt, .int ky, .int (nI ks), .ref akr, .ref akn, .ref aks, .long ha])), (arw, .inl (cI, 15, .inl rw)), (asi, .inl (cI, 24, .inl si))] s.heap := hP
  have hl := lv_entry ([.ref mo, .int (nI k)]) (n := 4) (Nat.le_of_ble_eq_true rfl)
  rw [lg_entry_eq]
  generalize (lg_sl ([.ref mo, .int (nI k)]) ++ List.replicate (4 - (lg_sl ([.ref mo, .int (nI k)])).length) Slot.unset).toArray = ls at hl ⊢
  have hl : lv_has ls 4 [(0, .ref mo), (1, .int (nI k))] := hl
  refine lv_iconst (v := 0) hx hb dX6_faithsOf_0 (by decide) ?_
  refine lv_istore_n (lv' := [(2, .int 0), (0, .ref mo), (1, .int (nI k))]) hx hb dX6_faithsOf_1 rfl hl (by decide) rfl (fun ls hl => ?_)
  refine lv_iconst (v := 0) hx hb dX6_faithsOf_2 (by decide) ?_
  refine lv_istore_n (lv' := [(3, .int 0), (2, .int 0), (0, .ref mo), (1, .int (nI k))]) hx hb dX6_faithsOf_3 rfl hl (by decide) rfl (fun ls hl => ?_)
  have hc4_1 : ∀ (n : Nat) (i : Nat), (i ≤ 10) → (10 + 1 ≤ i + n) → ∀ (w2 : Int32), w2 = faiN (fun v => wayN rw si k (nI v) Sm) i → ∀ (w3 : Int32), w3 = nI i → ∀ (ls : Array Slot), lv_has ls 4 [(3, .int w3), (2, .int w2), (0, .ref mo), (1, .int (nI k))] → W p l e (headSpec wsX6_faithsOf (zr 3)).room s m ([.ref mo, .int (nI k)] : List Value).toArray below meth c s.heap [] 0 0 (MQ below (vp_Si (fun r => r = faiN (fun v => wayN rw si k (nI v) Sm) 10)) ([.ref mo, .int (nI k)] : List Value).toArray s 0 0 (fun _ => False)) (F0 m 4 ls []) := by
    intro n
    induction n with
    | zero => intro i hi hfu; exact absurd hfu (by omega)
    | succ n ihhc4_1 =>
      intro i hi hfu w2 ew2 w3 ew3 ls hl
      subst ew2
      subst ew3
      refine lv_iload_n hx hb dX6_faithsOf_4 rfl (lv_at hl 0 rfl) ?_
      refine lv_bipush (v := 10) hx hb dX6_faithsOf_5 (by decide) ?_
      refine lv_icmp_ge (tgt := 37) hx hb dX6_faithsOf_7 (by decide) (fun c_7 => ?_) (fun c_7 => ?_)
      · have n_7 := zn_le (a := 10) (b := i) rfl rfl c_7 (by omega) (by omega)
        obtain rfl : 10 = i := by omega
        refine lv_iload_n hx hb dX6_faithsOf_37 rfl (lv_at hl 1 rfl) ?_
        exact W.iret (v := faiN (fun v => wayN rw si k (nI v) Sm) 10) hx hb hr (fun t ht hW => ⟨(faiN (fun v => wayN rw si k (nI v) Sm) 10), rfl, rfl, ht⟩) (fun q h => by cases h) dX6_faithsOf_38
      · have n_7 := zn_nle (a := 10) (b := i) rfl rfl c_7 (by omega) (by omega)
        refine lv_iload_n hx hb dX6_faithsOf_10 rfl (lv_at hl 1 rfl) ?_
        refine lv_aload_n hx hb dX6_faithsOf_11 rfl (lv_at hl 2 rfl) ?_
        refine lv_iload_n hx hb dX6_faithsOf_12 rfl (lv_at hl 3 rfl) ?_
        refine lv_iload_n hx hb dX6_faithsOf_13 rfl (lv_at hl 0 rfl) ?_
        refine z_roVl (As := [.int (nI k), .int (nI i)]) (rest := [.int (faiN (fun v => wayN rw si k (nI v) Sm) i)]) ⟨hx, hb, hml, hown, hts⟩ (c_X6_waysBy l D cI cZ cA mo apg P ea K Hn ym tm arw ans aro abo Sm asi sd asv kt ky ks akr akn aks ha rw si k (nI i) (by first | assumption | omega) (by first | assumption | omega)) (cwV 2 hts gX6_faithsOf_X6_waysBy rfl rfl rfl (by decide +kernel) ⟨Nat.le_of_ble_eq_true rfl, Nat.le_of_ble_eq_true rfl⟩) hE hP [0, 1, 2] rfl 0 6 rfl rfl rfl hl.1 rfl (Nat.le_of_ble_eq_true rfl) dX6_faithsOf_14 ⟨Nat.zero_le _, Nat.zero_le _⟩ ?_
        refine lv_lconst (v := 0) hx hb dX6_faithsOf_17 (by decide) ?_
        refine W.lcmp hx hb dX6_faithsOf_18 ?_
        refine lv_if_le (tgt := 28) hx hb dX6_faithsOf_19 (by decide) (fun c_19 => ?_) (fun c_19 => ?_)
        · have c_19 := zl_le c_19
          refine lv_iconst (v := 0) hx hb dX6_faithsOf_28 (by decide) ?_
          refine lv_ior hx hb dX6_faithsOf_29 ?_
          refine lv_istore_n (lv' := [(2, .int ((faiN (fun v => wayN rw si k (nI v) Sm) i) ||| 0)), (3, .int (nI i)), (0, .ref mo), (1, .int (nI k))]) hx hb dX6_faithsOf_30 rfl hl (by decide) rfl (fun ls hl => ?_)
          refine lv_iinc (v := nI (i + 1)) (lv' := [(3, .int (nI (i + 1))), (2, .int ((faiN (fun v => wayN rw si k (nI v) Sm) i) ||| 0)), (0, .ref mo), (1, .int (nI k))]) hx hb dX6_faithsOf_31 hl (k := 1) rfl (nI_add i 1) (by decide) rfl (fun ls hl => ?_)
          refine lv_goto (tgt := 4) hx hb dX6_faithsOf_34 (by decide) ?_
          exact ihhc4_1 (i + 1) (by omega) (by omega) ((faiN (fun v => wayN rw si k (nI v) Sm) i) ||| 0) (by simp only [faiN]; first | rw [if_pos c_19] | rw [if_neg c_19]) (nI (i + 1)) rfl ls (lv_sub hl [0, 1, 2, 3] rfl)
        · have c_19 := Int64.not_le.mpr (zl_nle c_19)
          refine lv_iconst (v := 1) hx hb dX6_faithsOf_22 (by decide) ?_
          refine lv_iload_n hx hb dX6_faithsOf_23 rfl (lv_at hl 0 rfl) ?_
          refine lv_ishl hx hb dX6_faithsOf_24 ?_
          refine lv_goto (tgt := 29) hx hb dX6_faithsOf_25 (by decide) ?_
          refine lv_ior hx hb dX6_faithsOf_29 ?_
          refine lv_istore_n (lv' := [(2, .int ((faiN (fun v => wayN rw si k (nI v) Sm) i) ||| (1 <<< ((nI i) &&& 31)))), (3, .int (nI i)), (0, .ref mo), (1, .int (nI k))]) hx hb dX6_faithsOf_30 rfl hl (by decide) rfl (fun ls hl => ?_)
          refine lv_iinc (v := nI (i + 1)) (lv' := [(3, .int (nI (i + 1))), (2, .int ((faiN (fun v => wayN rw si k (nI v) Sm) i) ||| (1 <<< ((nI i) &&& 31)))), (0, .ref mo), (1, .int (nI k))]) hx hb dX6_faithsOf_31 hl (k := 1) rfl (nI_add i 1) (by decide) rfl (fun ls hl => ?_)
          refine lv_goto (tgt := 4) hx hb dX6_faithsOf_34 (by decide) ?_
          exact ihhc4_1 (i + 1) (by omega) (by omega) ((faiN (fun v => wayN rw si k (nI v) Sm) i) ||| (1 <<< ((nI i) &&& 31))) (by simp only [faiN]; first | rw [if_pos c_19] | rw [if_neg c_19]) (nI (i + 1)) rfl ls (lv_sub hl [0, 1, 2, 3] rfl)
  exact hc4_1 (10 + 1) 0 (by omega) (by omega) 0 rfl 0 rfl ls (lv_sub hl [0, 1, 2, 3] rfl)

set_option maxHeartbeats 4000000 in
set_option maxRecDepth 100000 in
theorem c_X6_likelyOf (l : Launch) (D : va_G) (cI cZ cA : ClassId) (mo : Nat) (apg : Nat) (P : Nat) (ea : Int32) (K : Nat) (Hn : Nat) (ym : Int32) (tm : Int32) (arw : Nat) (ans : Nat) (aro : Nat) (abo : Nat) (Sm : Nat) (asi : Nat) (sd : Int32) (asv : Nat) (kt : Int32) (ky : Int32) (ks : Nat) (akr : Nat) (akn : Nat) (aks : Nat) (ha : Int64) (rw : Nat → Int32) (si : Nat → Int32) (k : Nat) (hk : k < 5) (hS8 : Sm ≤ 8) : Met l yX6_likelyOf wsX6_likelyOf (zr 3) (va_Pc [.ref mo, .int (nI k)] (zPr D cI cZ cA [(mo, .inr (6, [.ref apg, .int (nI P), .int ea, .int (nI K), .int (nI Hn), .int ym, .int tm, .ref arw, .ref ans, .ref aro, .ref abo, .int (nI Sm), .ref asi, .int sd, .ref asv, .int kt, .int ky, .int (nI ks), .ref akr, .ref akn, .ref aks, .long ha])), (arw, .inl (cI, 15, .inl rw)), (asi, .inl (cI, 24, .inl si))])) (vp_Si (fun r => r = likN (fun v => wayN rw si k (nI v) Sm) 10)) 0 0 (fun _ => False) := by
  refine Met.ofW (cc := cX6_likelyOf) (maxL := 8) (ret := (some .int)) (by decide) rfl ?_
  intro p e s m args below meth c s₁ B hml hv
  obtain ⟨rfl, hP, hE⟩ := hv
  have hx := B.exec
  have hb := B.bytes
  have hr := B.returns
  have hts := atoms_spec (ws := wsX6_likelyOf) B.pre
  have hown : s.vm.findClass RX6 = some m.cls := findClass_of_methodNamed B.named
  have hlocks := B.notSynchronized
  have hP : va_P D vwCl [(mo, .inr (6, [.ref apg, .int (nI P), .int ea, .int (nI K), .int (nI Hn), .int ym, .int tm, .ref arw, .ref ans, .ref aro, .ref abo, .int (nI Sm), .ref asi, .int sd, .ref asv, .int kt, .int ky, .int (nI ks), .ref akr, .ref akn, .ref aks, .long ha])), (arw, .inl (cI, 15, .inl rw)), (asi, .inl (cI, 24, .inl si))] s.heap := hP
  have hl := lv_entry ([.ref mo, .int (nI k)]) (n := 8) (Nat.le_of_ble_eq_true rfl)
  rw [lg_entry_eq]
  generalize (lg_sl ([.ref mo, .int (nI k)]) ++ List.replicate (8 - (lg_sl ([.ref mo, .int (nI k)])).length) Slot.unset).toArray = ls at hl ⊢
  have hl : lv_has ls 8 [(0, .ref mo), (1, .int (nI k))] := hl
  refine lv_iconst (v := (-1)) hx hb dX6_likelyOf_0 (by decide) ?_
  refine lv_istore_n (lv' := [(2, .int (-1)), (0, .ref mo), (1, .int (nI k))]) hx hb dX6_likelyOf_1 rfl hl (by decide) rfl (fun ls hl => ?_)
  refine lv_lconst (v := 0) hx hb dX6_likelyOf_2 (by decide) ?_
  refine lv_lstore_n (lv' := [(3, .long 0), (2, .int (-1)), (0, .ref mo), (1, .int (nI k))]) hx hb dX6_likelyOf_3 rfl hl (by decide) rfl (fun ls hl => ?_)
  refine lv_iconst (v := 0) hx hb dX6_likelyOf_4 (by decide) ?_
  refine lv_istore (lv' := [(5, .int 0), (3, .long 0), (2, .int (-1)), (0, .ref mo), (1, .int (nI k))]) hx hb dX6_likelyOf_5 hl (by decide) rfl (fun ls hl => ?_)
  have hc7_1 : ∀ (n : Nat) (i : Nat), (i ≤ 10) → (10 + 1 ≤ i + n) → ∀ (w2 : Int32), w2 = likN (fun v => wayN rw si k (nI v) Sm) i → ∀ (w4 : Int64), w4 = likM (fun v => wayN rw si k (nI v) Sm) i → ∀ (w3 : Int32), w3 = nI i → ∀ (ls : Array Slot), lv_has ls 8 [(5, .int w3), (3, .long w4), (2, .int w2), (0, .ref mo), (1, .int (nI k))] → W p l e (headSpec wsX6_likelyOf (zr 3)).room s m ([.ref mo, .int (nI k)] : List Value).toArray below meth c s.heap [] 0 0 (MQ below (vp_Si (fun r => r = likN (fun v => wayN rw si k (nI v) Sm) 10)) ([.ref mo, .int (nI k)] : List Value).toArray s 0 0 (fun _ => False)) (F0 m 7 ls []) := by
    intro n
    induction n with
    | zero => intro i hi hfu; exact absurd hfu (by omega)
    | succ n ihhc7_1 =>
      intro i hi hfu w2 ew2 w4 ew4 w3 ew3 ls hl
      subst ew2
      subst ew4
      subst ew3
      refine lv_iload hx hb dX6_likelyOf_7 (lv_at hl 0 rfl) ?_
      refine lv_bipush (v := 10) hx hb dX6_likelyOf_9 (by decide) ?_
      refine lv_icmp_ge (tgt := 57) hx hb dX6_likelyOf_11 (by decide) (fun c_11 => ?_) (fun c_11 => ?_)
      · have n_11 := zn_le (a := 10) (b := i) rfl rfl c_11 (by omega) (by omega)
        obtain rfl : 10 = i := by omega
        refine lv_iload_n hx hb dX6_likelyOf_57 rfl (lv_at hl 2 rfl) ?_
        exact W.iret (v := likN (fun v => wayN rw si k (nI v) Sm) 10) hx hb hr (fun t ht hW => ⟨(likN (fun v => wayN rw si k (nI v) Sm) 10), rfl, rfl, ht⟩) (fun q h => by cases h) dX6_likelyOf_58
      · have n_11 := zn_nle (a := 10) (b := i) rfl rfl c_11 (by omega) (by omega)
        refine lv_aload_n hx hb dX6_likelyOf_14 rfl (lv_at hl 3 rfl) ?_
        refine lv_iload_n hx hb dX6_likelyOf_15 rfl (lv_at hl 4 rfl) ?_
        refine lv_iload hx hb dX6_likelyOf_16 (lv_at hl 0 rfl) ?_
        refine z_roVl (As := [.int (nI k), .int (nI i)]) (rest := []) ⟨hx, hb, hml, hown, hts⟩ (c_X6_waysBy l D cI cZ cA mo apg P ea K Hn ym tm arw ans aro abo Sm asi sd asv kt ky ks akr akn aks ha rw si k (nI i) (by first | assumption | omega) (by first | assumption | omega)) (cwV 2 hts gX6_likelyOf_X6_waysBy rfl rfl rfl (by decide +kernel) ⟨Nat.le_of_ble_eq_true rfl, Nat.le_of_ble_eq_true rfl⟩) hE hP [0, 1, 2] rfl 0 6 rfl rfl rfl hl.1 rfl (Nat.le_of_ble_eq_true rfl) dX6_likelyOf_18 ⟨Nat.zero_le _, Nat.zero_le _⟩ ?_
        refine lv_lstore (lv' := [(6, .long (wayN rw si k (nI i) Sm)), (5, .int (nI i)), (3, .long (likM (fun v => wayN rw si k (nI v) Sm) i)), (2, .int (likN (fun v => wayN rw si k (nI v) Sm) i)), (0, .ref mo), (1, .int (nI k))]) hx hb dX6_likelyOf_21 hl (by decide) rfl (fun ls hl => ?_)
        refine lv_lload hx hb dX6_likelyOf_23 (lv_at hl 0 rfl) ?_
        refine lv_lload_n hx hb dX6_likelyOf_25 rfl (lv_at hl 2 rfl) ?_
        refine W.lcmp hx hb dX6_likelyOf_26 ?_
        refine lv_if_le (tgt := 35) hx hb dX6_likelyOf_27 (by decide) (fun c_27 => ?_) (fun c_27 => ?_)
        · have c_27 := zl_le c_27
          refine lv_iload_n hx hb dX6_likelyOf_35 rfl (lv_at hl 3 rfl) ?_
          refine lv_istore_n (lv' := [(2, .int (likN (fun v => wayN rw si k (nI v) Sm) i)), (6, .long (wayN rw si k (nI i) Sm)), (5, .int (nI i)), (3, .long (likM (fun v => wayN rw si k (nI v) Sm) i)), (0, .ref mo), (1, .int (nI k))]) hx hb dX6_likelyOf_36 rfl hl (by decide) rfl (fun ls hl => ?_)
          refine lv_lload hx hb dX6_likelyOf_37 (lv_at hl 1 rfl) ?_
          refine lv_lload_n hx hb dX6_likelyOf_39 rfl (lv_at hl 3 rfl) ?_
          refine W.lcmp hx hb dX6_likelyOf_40 ?_
          refine lv_if_le (tgt := 49) hx hb dX6_likelyOf_41 (by decide) (fun c_41 => ?_) (fun c_41 => ?_)
          · have c_41 := zl_le c_41
            refine lv_lload_n hx hb dX6_likelyOf_49 rfl (lv_at hl 3 rfl) ?_
            refine lv_lstore_n (lv' := [(3, .long (likM (fun v => wayN rw si k (nI v) Sm) i)), (2, .int (likN (fun v => wayN rw si k (nI v) Sm) i)), (6, .long (wayN rw si k (nI i) Sm)), (5, .int (nI i)), (0, .ref mo), (1, .int (nI k))]) hx hb dX6_likelyOf_50 rfl hl (by decide) rfl (fun ls hl => ?_)
            refine lv_iinc (v := nI (i + 1)) (lv' := [(5, .int (nI (i + 1))), (3, .long (likM (fun v => wayN rw si k (nI v) Sm) i)), (2, .int (likN (fun v => wayN rw si k (nI v) Sm) i)), (6, .long (wayN rw si k (nI i) Sm)), (0, .ref mo), (1, .int (nI k))]) hx hb dX6_likelyOf_51 hl (k := 3) rfl (nI_add i 1) (by decide) rfl (fun ls hl => ?_)
            refine lv_goto (tgt := 7) hx hb dX6_likelyOf_54 (by decide) ?_
            exact ihhc7_1 (i + 1) (by omega) (by omega) (likN (fun v => wayN rw si k (nI v) Sm) i) (by simp only [likN]; first | rw [if_pos c_27] | rw [if_neg c_27]) (likM (fun v => wayN rw si k (nI v) Sm) i) (by simp only [likM]; first | rw [if_pos c_41] | rw [if_neg c_41]) (nI (i + 1)) rfl ls (lv_sub hl [0, 1, 2, 4, 5] rfl)
          · have c_41 := Int64.not_le.mpr (zl_nle c_41)
            refine lv_lload hx hb dX6_likelyOf_44 (lv_at hl 1 rfl) ?_
            refine lv_goto (tgt := 50) hx hb dX6_likelyOf_46 (by decide) ?_
            refine lv_lstore_n (lv' := [(3, .long (wayN rw si k (nI i) Sm)), (2, .int (likN (fun v => wayN rw si k (nI v) Sm) i)), (6, .long (wayN rw si k (nI i) Sm)), (5, .int (nI i)), (0, .ref mo), (1, .int (nI k))]) hx hb dX6_likelyOf_50 rfl hl (by decide) rfl (fun ls hl => ?_)
            refine lv_iinc (v := nI (i + 1)) (lv' := [(5, .int (nI (i + 1))), (3, .long (wayN rw si k (nI i) Sm)), (2, .int (likN (fun v => wayN rw si k (nI v) Sm) i)), (6, .long (wayN rw si k (nI i) Sm)), (0, .ref mo), (1, .int (nI k))]) hx hb dX6_likelyOf_51 hl (k := 3) rfl (nI_add i 1) (by decide) rfl (fun ls hl => ?_)
            refine lv_goto (tgt := 7) hx hb dX6_likelyOf_54 (by decide) ?_
            exact ihhc7_1 (i + 1) (by omega) (by omega) (likN (fun v => wayN rw si k (nI v) Sm) i) (by simp only [likN]; first | rw [if_pos c_27] | rw [if_neg c_27]) (wayN rw si k (nI i) Sm) (by simp only [likM]; first | rw [if_pos c_41] | rw [if_neg c_41]) (nI (i + 1)) rfl ls (lv_sub hl [0, 1, 2, 4, 5] rfl)
        · have c_27 := Int64.not_le.mpr (zl_nle c_27)
          refine lv_iload hx hb dX6_likelyOf_30 (lv_at hl 1 rfl) ?_
          refine lv_goto (tgt := 36) hx hb dX6_likelyOf_32 (by decide) ?_
          refine lv_istore_n (lv' := [(2, .int (nI i)), (6, .long (wayN rw si k (nI i) Sm)), (5, .int (nI i)), (3, .long (likM (fun v => wayN rw si k (nI v) Sm) i)), (0, .ref mo), (1, .int (nI k))]) hx hb dX6_likelyOf_36 rfl hl (by decide) rfl (fun ls hl => ?_)
          refine lv_lload hx hb dX6_likelyOf_37 (lv_at hl 1 rfl) ?_
          refine lv_lload_n hx hb dX6_likelyOf_39 rfl (lv_at hl 3 rfl) ?_
          refine W.lcmp hx hb dX6_likelyOf_40 ?_
          refine lv_if_le (tgt := 49) hx hb dX6_likelyOf_41 (by decide) (fun c_41 => ?_) (fun c_41 => ?_)
          · have c_41 := zl_le c_41
            refine lv_lload_n hx hb dX6_likelyOf_49 rfl (lv_at hl 3 rfl) ?_
            refine lv_lstore_n (lv' := [(3, .long (likM (fun v => wayN rw si k (nI v) Sm) i)), (2, .int (nI i)), (6, .long (wayN rw si k (nI i) Sm)), (5, .int (nI i)), (0, .ref mo), (1, .int (nI k))]) hx hb dX6_likelyOf_50 rfl hl (by decide) rfl (fun ls hl => ?_)
            refine lv_iinc (v := nI (i + 1)) (lv' := [(5, .int (nI (i + 1))), (3, .long (likM (fun v => wayN rw si k (nI v) Sm) i)), (2, .int (nI i)), (6, .long (wayN rw si k (nI i) Sm)), (0, .ref mo), (1, .int (nI k))]) hx hb dX6_likelyOf_51 hl (k := 3) rfl (nI_add i 1) (by decide) rfl (fun ls hl => ?_)
            refine lv_goto (tgt := 7) hx hb dX6_likelyOf_54 (by decide) ?_
            exact ihhc7_1 (i + 1) (by omega) (by omega) (nI i) (by simp only [likN]; first | rw [if_pos c_27] | rw [if_neg c_27]) (likM (fun v => wayN rw si k (nI v) Sm) i) (by simp only [likM]; first | rw [if_pos c_41] | rw [if_neg c_41]) (nI (i + 1)) rfl ls (lv_sub hl [0, 1, 2, 4, 5] rfl)
          · have c_41 := Int64.not_le.mpr (zl_nle c_41)
            refine lv_lload hx hb dX6_likelyOf_44 (lv_at hl 1 rfl) ?_
            refine lv_goto (tgt := 50) hx hb dX6_likelyOf_46 (by decide) ?_
            refine lv_lstore_n (lv' := [(3, .long (wayN rw si k (nI i) Sm)), (2, .int (nI i)), (6, .long (wayN rw si k (nI i) Sm)), (5, .int (nI i)), (0, .ref mo), (1, .int (nI k))]) hx hb dX6_likelyOf_50 rfl hl (by decide) rfl (fun ls hl => ?_)
            refine lv_iinc (v := nI (i + 1)) (lv' := [(5, .int (nI (i + 1))), (3, .long (wayN rw si k (nI i) Sm)), (2, .int (nI i)), (6, .long (wayN rw si k (nI i) Sm)), (0, .ref mo), (1, .int (nI k))]) hx hb dX6_likelyOf_51 hl (k := 3) rfl (nI_add i 1) (by decide) rfl (fun ls hl => ?_)
            refine lv_goto (tgt := 7) hx hb dX6_likelyOf_54 (by decide) ?_
            exact ihhc7_1 (i + 1) (by omega) (by omega) (nI i) (by simp only [likN]; first | rw [if_pos c_27] | rw [if_neg c_27]) (wayN rw si k (nI i) Sm) (by simp only [likM]; first | rw [if_pos c_41] | rw [if_neg c_41]) (nI (i + 1)) rfl ls (lv_sub hl [0, 1, 2, 4, 5] rfl)
  exact hc7_1 (10 + 1) 0 (by omega) (by omega) (-1) rfl 0 rfl 0 rfl ls (lv_sub hl [0, 1, 2, 3, 4] rfl)

set_option maxHeartbeats 4000000 in
set_option maxRecDepth 100000 in
theorem c_X6_tenthsIn (l : Launch) (D : va_G) (cI cZ cA : ClassId) (mo : Nat) (apg : Nat) (P : Nat) (ea : Int32) (K : Nat) (Hn : Nat) (ym : Int32) (tm : Int32) (arw : Nat) (ans : Nat) (aro : Nat) (abo : Nat) (Sm : Nat) (asi : Nat) (sd : Int32) (asv : Nat) (kt : Int32) (ky : Int32) (ks : Nat) (akr : Nat) (akn : Nat) (aks : Nat) (ha : Int64) (rw : Nat → Int32) (ns : Nat → Int32) (h : Nat) (hK : K ≤ 5) (hh : h < Hn) (hH : Hn ≤ 5) (ok : letOk ns K Hn) : Met l yX6_tenthsIn wsX6_tenthsIn (zr 3) (va_Pc [.ref mo, .int (nI h)] (zPr D cI cZ cA [(mo, .inr (6, [.ref apg, .int (nI P), .int ea, .int (nI K), .int (nI Hn), .int ym, .int tm, .ref arw, .ref ans, .ref aro, .ref abo, .int (nI Sm), .ref asi, .int sd, .ref asv, .int kt, .int ky, .int (nI ks), .ref akr, .ref akn, .ref aks, .long ha])), (arw, .inl (cI, 15, .inl rw)), (ans, .inl (cI, 20, .inl ns))])) (vp_Si (fun r => r = tIn rw ns h)) 0 0 (fun _ => False) := by
  refine Met.ofW (cc := cX6_tenthsIn) (maxL := 2) (ret := (some .int)) (by decide) rfl ?_
  intro p e s m args below meth c s₁ B hml hv
  obtain ⟨rfl, hP, hE⟩ := hv
  have hx := B.exec
  have hb := B.bytes
  have hr := B.returns
  have hts := atoms_spec (ws := wsX6_tenthsIn) B.pre
  have hown : s.vm.findClass RX6 = some m.cls := findClass_of_methodNamed B.named
  have hlocks := B.notSynchronized
  have hP : va_P D vwCl [(mo, .inr (6, [.ref apg, .int (nI P), .int ea, .int (nI K), .int (nI Hn), .int ym, .int tm, .ref arw, .ref ans, .ref aro, .ref abo, .int (nI Sm), .ref asi, .int sd, .ref asv, .int kt, .int ky, .int (nI ks), .ref akr, .ref akn, .ref aks, .long ha])), (arw, .inl (cI, 15, .inl rw)), (ans, .inl (cI, 20, .inl ns))] s.heap := hP
  have hl := lv_entry ([.ref mo, .int (nI h)]) (n := 2) (Nat.le_of_ble_eq_true rfl)
  rw [lg_entry_eq]
  generalize (lg_sl ([.ref mo, .int (nI h)]) ++ List.replicate (2 - (lg_sl ([.ref mo, .int (nI h)])).length) Slot.unset).toArray = ls at hl ⊢
  have hl : lv_has ls 2 [(0, .ref mo), (1, .int (nI h))] := hl
  have hinX6 : ∀ w ∈ wsX60, w ∈ wsX6_tenthsIn := fun w h => List.mem_cons_of_mem _ (List.mem_append_right _ h)
  have k_0 := hts (.fieldLink RX6 16 "VowDovesModel" "nests" "[I") (by decide +kernel)
  refine lv_aload_n hx hb dX6_tenthsIn_0 rfl (lv_at hl 0 rfl) ?_
  refine va_get (D := D) (ci := 6) (v := .ref ans) (C := RX6) (T := TX6) (N := 22) hx hb hts hinX6 hown hE.1 hP 0 rfl rfl 8 (by decide) k_0 (fun _ h9 => h9) rfl dX6_tenthsIn_1 ?_
  refine lv_iconst (v := 4) hx hb dX6_tenthsIn_4 (by decide) ?_
  refine lv_iload_n hx hb dX6_tenthsIn_5 rfl (lv_at hl 1 rfl) ?_
  refine z_imulN hx hb (a := 4) (b := h) rfl rfl dX6_tenthsIn_6 ?_
  refine lv_iconst (v := 1) hx hb dX6_tenthsIn_7 (by decide) ?_
  refine z_iaddN hx hb (a := 4 * h) (b := 1) rfl rfl dX6_tenthsIn_8 ?_
  refine z_iald hx hb hE hP 2 rfl (j := (4 * h) + 1) rfl (by omega) (by decide) dX6_tenthsIn_9 ?_
  refine lv_iconst (v := (-1)) hx hb dX6_tenthsIn_10 (by decide) ?_
  refine lv_icmp_ne (tgt := 18) hx hb dX6_tenthsIn_11 (by decide) (fun c_11 => ?_) (fun c_11 => ?_)
  · obtain ⟨k0, hk0, ek⟩ := (ok h hh).resolve_left c_11
    refine lv_aload_n hx hb dX6_tenthsIn_18 rfl (lv_at hl 0 rfl) ?_
    refine lv_aload_n hx hb dX6_tenthsIn_19 rfl (lv_at hl 0 rfl) ?_
    refine va_get (D := D) (ci := 6) (v := .ref ans) (C := RX6) (T := TX6) (N := 22) hx hb hts hinX6 hown hE.1 hP 0 rfl rfl 8 (by decide) k_0 (fun _ h9 => h9) rfl dX6_tenthsIn_20 ?_
    refine lv_iconst (v := 4) hx hb dX6_tenthsIn_23 (by decide) ?_
    refine lv_iload_n hx hb dX6_tenthsIn_24 rfl (lv_at hl 1 rfl) ?_
    refine z_imulN hx hb (a := 4) (b := h) rfl rfl dX6_tenthsIn_25 ?_
    refine lv_iconst (v := 1) hx hb dX6_tenthsIn_26 (by decide) ?_
    refine z_iaddN hx hb (a := 4 * h) (b := 1) rfl rfl dX6_tenthsIn_27 ?_
    refine z_iald hx hb hE hP 2 rfl (j := (4 * h) + 1) rfl (by omega) (by decide) dX6_tenthsIn_28 ?_
    refine lv_aload_n hx hb dX6_tenthsIn_29 rfl (lv_at hl 0 rfl) ?_
    refine va_get (D := D) (ci := 6) (v := .ref ans) (C := RX6) (T := TX6) (N := 22) hx hb hts hinX6 hown hE.1 hP 0 rfl rfl 8 (by decide) k_0 (fun _ h9 => h9) rfl dX6_tenthsIn_30 ?_
    refine lv_iconst (v := 4) hx hb dX6_tenthsIn_33 (by decide) ?_
    refine lv_iload_n hx hb dX6_tenthsIn_34 rfl (lv_at hl 1 rfl) ?_
    refine z_imulN hx hb (a := 4) (b := h) rfl rfl dX6_tenthsIn_35 ?_
    refine z_iald hx hb hE hP 2 rfl (j := 4 * h) rfl (by omega) (by decide) dX6_tenthsIn_36 ?_
    refine W.eq (g2 := F0 m 37 ls [.int (ns (4 * h)), .int (nI k0), .ref mo]) (by rw [show (ns ((4 * h) + 1) : Int32) = nI k0 from ek]) ?_
    refine z_roVi (As := [.int (nI k0), .int (ns (4 * h))]) (rest := []) ⟨hx, hb, hml, hown, hts⟩ (c_X6_tenthsOf l D cI cZ cA mo apg P ea K Hn ym tm arw ans aro abo Sm asi sd asv kt ky ks akr akn aks ha rw k0 (ns (4 * h)) (by first | assumption | omega)) (cwV 2 hts gX6_tenthsIn_X6_tenthsOf rfl rfl rfl (by decide +kernel) ⟨Nat.le_of_ble_eq_true rfl, Nat.le_of_ble_eq_true rfl⟩) hE hP [0, 1] rfl 0 6 rfl rfl rfl hl.1 rfl (Nat.le_of_ble_eq_true rfl) dX6_tenthsIn_37 ⟨Nat.zero_le _, Nat.zero_le _⟩ ?_
    exact W.iret (v := (tb (rw (3 * k0)) (rw (3 * k0 + 1)) (ns (4 * h)))) hx hb hr (fun t ht hW => ⟨(tb (rw (3 * k0)) (rw (3 * k0 + 1)) (ns (4 * h))), rfl, (tIn_k ek (by omega)).symm, ht⟩) (fun q h => by cases h) dX6_tenthsIn_40
  · refine lv_iconst (v := (-1)) hx hb dX6_tenthsIn_14 (by decide) ?_
    refine lv_goto (tgt := 40) hx hb dX6_tenthsIn_15 (by decide) ?_
    exact W.iret (v := (-1)) hx hb hr (fun t ht hW => ⟨(-1), rfl, (by rw [tIn, if_pos c_11]), ht⟩) (fun q h => by cases h) dX6_tenthsIn_40
