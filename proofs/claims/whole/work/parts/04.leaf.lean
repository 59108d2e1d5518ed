
/-! PURE WORDS of the class's leaves -/
def yk (kind faith hard : Int32) : Int32 :=
  (fun (v least : Int32) => (fun (w : Int32) => if least < w then w else least) (if v < 10 then v else 10)) ((if kind = 4 then faith + 2 else faith) + 5 - (if kind = 3 then 2 * hard else hard)) (if kind = 1 ∨ kind = 4 then 3 else 0)
def ykAt (K : Nat) (kd fa : Nat → Int32) (k hard : Int32) : Int32 := if ¬ k < 0 ∧ k < nI K then yk (kd k.toNatClampNeg) (fa k.toNatClampNeg) hard else -1
def eggY (K : Nat) (kd : Nat → Int32) (k : Int32) : Int32 := if (¬ k < 0 ∧ k < nI K) ∧ kd k.toNatClampNeg = 2 then 0 else 1
def hOfN (lt : Nat → Int32) (k : Int32) : Nat → Int32
  | 0 => 0
  | i + 1 => if lt i = k then hOfN lt k i ||| (1 <<< (nI i &&& 31)) else hOfN lt k i
def eOfN (lt eg : Nat → Int32) (k : Int32) : Nat → Int32
  | 0 => 0
  | i + 1 => if lt i = k then eOfN lt eg k i + eg i else eOfN lt eg k i
def cntN (bd : Nat → Int32) (b : Int32) : Nat → Int32
  | 0 => 0
  | i + 1 => if bd i = b then cntN bd b i + 1 else cntN bd b i
def sumN (f : Nat → Int32) : Nat → Int32
  | 0 => 0
  | i + 1 => sumN f i + f i
def gdN : Nat → Int64 → Int64 → Int64
  | 0, a, _ => a
  | n + 1, a, b => if b = 0 then a else gdN n b (a - a / b * b)
theorem gdN_z {n : Nat} {a : Int64} : gdN n a 0 = a := by
  cases n with
  | zero => rfl
  | succ n => rw [gdN, if_pos rfl]
def bitc (x : Int32) : Int32 :=
  (fun (a : Int32) => (fun (b : Int32) => (fun (c : Int32) => (fun (d : Int32) => (fun (e : Int32) => e &&& 63) (d + (d.toUInt32 >>> ((16 : Int32).toUInt32 &&& Int32.toUInt32 31)).toInt32)) (c + (c.toUInt32 >>> ((8 : Int32).toUInt32 &&& Int32.toUInt32 31)).toInt32)) ((b + (b.toUInt32 >>> ((4 : Int32).toUInt32 &&& Int32.toUInt32 31)).toInt32) &&& 252645135)) ((a &&& 858993459) + ((a.toUInt32 >>> ((2 : Int32).toUInt32 &&& Int32.toUInt32 31)).toInt32 &&& 858993459))) (x - ((x.toUInt32 >>> ((1 : Int32).toUInt32 &&& Int32.toUInt32 31)).toInt32 &&& 1431655765))
set_option maxHeartbeats 4000000 in
set_option maxRecDepth 100000 in
theorem c_X5_isOfKind (l : Launch) (D : va_G) (cI cZ cA : ClassId) (kd0 : Int32) (asked : Int32)  : Met l yX5_isOfKind wsX5_isOfKind (zr 1) (va_Pc [.int kd0, .int asked] (zPr D cI cZ cA [])) (vp_Si (fun r => r = zb (asked = 0 ∨ kd0 = asked ∨ (kd0 = 4 ∧ asked = 1)))) 0 0 (fun _ => False) := by
  refine Met.ofW (cc := cX5_isOfKind) (maxL := 2) (ret := (some .boolean)) (by decide) rfl ?_
  intro p e s m args below meth c s₁ B hml hv
  obtain ⟨rfl, hP, hE⟩ := hv
  have hx := B.exec
  have hb := B.bytes
  have hr := B.returns
  have hts := atoms_spec (ws := wsX5_isOfKind) B.pre
  have hown : s.vm.findClass RX5 = some m.cls := findClass_of_methodNamed B.named
  have hlocks := B.notSynchronized
  have hP : va_P D vwCl [] s.heap := hP
  have hl := lv_entry ([.int kd0, .int asked]) (n := 2) (Nat.le_of_ble_eq_true rfl)
  rw [lg_entry_eq]
  generalize (lg_sl ([.int kd0, .int asked]) ++ List.replicate (2 - (lg_sl ([.int kd0, .int asked])).length) Slot.unset).toArray = ls at hl ⊢
  have hl : lv_has ls 2 [(0, .int kd0), (1, .int asked)] := hl
  refine lv_iload_n hx hb dX5_isOfKind_0 rfl (lv_at hl 1 rfl) ?_
  refine lv_if_eq (tgt := 19) hx hb dX5_isOfKind_1 (by decide) (fun c_1 => ?_) (fun c_1 => ?_)
  · refine lv_iconst (v := 1) hx hb dX5_isOfKind_19 (by decide) ?_
    refine lv_goto (tgt := 24) hx hb dX5_isOfKind_20 (by decide) ?_
    exact W.zret (v := 1) hx hb hr rfl (fun t ht hW => ⟨1, rfl, (by unfold zb; grind), ht⟩) (fun q h => by cases h) dX5_isOfKind_24
  · refine lv_iload_n hx hb dX5_isOfKind_4 rfl (lv_at hl 0 rfl) ?_
    refine lv_iload_n hx hb dX5_isOfKind_5 rfl (lv_at hl 1 rfl) ?_
    refine lv_icmp_eq (tgt := 19) hx hb dX5_isOfKind_6 (by decide) (fun c_6 => ?_) (fun c_6 => ?_)
    · refine lv_iconst (v := 1) hx hb dX5_isOfKind_19 (by decide) ?_
      refine lv_goto (tgt := 24) hx hb dX5_isOfKind_20 (by decide) ?_
      exact W.zret (v := 1) hx hb hr rfl (fun t ht hW => ⟨1, rfl, (by unfold zb; grind), ht⟩) (fun q h => by cases h) dX5_isOfKind_24
    · refine lv_iload_n hx hb dX5_isOfKind_9 rfl (lv_at hl 0 rfl) ?_
      refine lv_iconst (v := 4) hx hb dX5_isOfKind_10 (by decide) ?_
      refine lv_icmp_ne (tgt := 23) hx hb dX5_isOfKind_11 (by decide) (fun c_11 => ?_) (fun c_11 => ?_)
      · refine lv_iconst (v := 0) hx hb dX5_isOfKind_23 (by decide) ?_
        exact W.zret (v := 0) hx hb hr rfl (fun t ht hW => ⟨0, rfl, (by unfold zb; grind), ht⟩) (fun q h => by cases h) dX5_isOfKind_24
      · refine lv_iload_n hx hb dX5_isOfKind_14 rfl (lv_at hl 1 rfl) ?_
        refine lv_iconst (v := 1) hx hb dX5_isOfKind_15 (by decide) ?_
        refine lv_icmp_ne (tgt := 23) hx hb dX5_isOfKind_16 (by decide) (fun c_16 => ?_) (fun c_16 => ?_)
        · refine lv_iconst (v := 0) hx hb dX5_isOfKind_23 (by decide) ?_
          exact W.zret (v := 0) hx hb hr rfl (fun t ht hW => ⟨0, rfl, (by unfold zb; grind), ht⟩) (fun q h => by cases h) dX5_isOfKind_24
        · refine lv_iconst (v := 1) hx hb dX5_isOfKind_19 (by decide) ?_
          refine lv_goto (tgt := 24) hx hb dX5_isOfKind_20 (by decide) ?_
          exact W.zret (v := 1) hx hb hr rfl (fun t ht hW => ⟨1, rfl, (by unfold zb; grind), ht⟩) (fun q h => by cases h) dX5_isOfKind_24

set_option maxHeartbeats 4000000 in
set_option maxRecDepth 100000 in
theorem c_X5_yearsKeptBy (l : Launch) (D : va_G) (cI cZ cA : ClassId) (kd0 : Int32) (fa0 : Int32) (hd0 : Int32)  : Met l yX5_yearsKeptBy wsX5_yearsKeptBy (zr 2) (va_Pc [.int kd0, .int fa0, .int hd0] (zPr D cI cZ cA [])) (vp_Si (fun r => r = yk kd0 fa0 hd0)) 0 0 (fun _ => False) := by
  refine Met.ofW (cc := cX5_yearsKeptBy) (maxL := 6) (ret := (some .int)) (by decide) rfl ?_
  intro p e s m args below meth c s₁ B hml hv
  obtain ⟨rfl, hP, hE⟩ := hv
  have hx := B.exec
  have hb := B.bytes
  have hr := B.returns
  have hts := atoms_spec (ws := wsX5_yearsKeptBy) B.pre
  have hown : s.vm.findClass RX5 = some m.cls := findClass_of_methodNamed B.named
  have hlocks := B.notSynchronized
  have hP : va_P D vwCl [] s.heap := hP
  have hl := lv_entry ([.int kd0, .int fa0, .int hd0]) (n := 6) (Nat.le_of_ble_eq_true rfl)
  rw [lg_entry_eq]
  generalize (lg_sl ([.int kd0, .int fa0, .int hd0]) ++ List.replicate (6 - (lg_sl ([.int kd0, .int fa0, .int hd0])).length) Slot.unset).toArray = ls at hl ⊢
  have hl : lv_has ls 6 [(0, .int kd0), (1, .int fa0), (2, .int hd0)] := hl
  have k_0 := hts (.methodLink RX5 248 Lib.Math.min.name) (by decide +kernel)
  have k_1 := hts (.static Lib.Math.min.name) (by decide +kernel)
  have k_2 := hts (.initialized "java/lang/Math") (by decide +kernel)
  have k_3 := hts (.code Lib.Math.min.name Lib.Math.min.code 2 (some .int)) (by decide +kernel)
  have k_4 := hts (.methodLink RX5 253 Lib.Math.max.name) (by decide +kernel)
  have k_5 := hts (.static Lib.Math.max.name) (by decide +kernel)
  have k_6 := hts (.code Lib.Math.max.name Lib.Math.max.code 2 (some .int)) (by decide +kernel)
  refine lv_iload_n hx hb dX5_yearsKeptBy_0 rfl (lv_at hl 0 rfl) ?_
  refine lv_iconst (v := 4) hx hb dX5_yearsKeptBy_1 (by decide) ?_
  refine z_roSi (As := [.int kd0, .int 4]) (rest := []) ⟨hx, hb, hml, hown, hts⟩ (c_X5_isOfKind l D cI cZ cA kd0 4 ) (va_cwS 2 hts gX5_yearsKeptBy_X5_isOfKind rfl rfl rfl (by decide +kernel) ⟨Nat.le_of_ble_eq_true rfl, Nat.le_of_ble_eq_true rfl⟩) hE hP [] rfl rfl hl.1 rfl (Nat.le_of_ble_eq_true rfl) dX5_yearsKeptBy_2 ⟨Nat.zero_le _, Nat.zero_le _⟩ ?_
  refine lv_if_eq (tgt := 14) hx hb dX5_yearsKeptBy_5 (by decide) (fun c_5 => ?_) (fun c_5 => ?_)
  · have c_5 := zb_0 c_5
    simp at c_5
    refine lv_iload_n hx hb dX5_yearsKeptBy_14 rfl (lv_at hl 1 rfl) ?_
    refine lv_istore_n (lv' := [(3, .int fa0), (0, .int kd0), (1, .int fa0), (2, .int hd0)]) hx hb dX5_yearsKeptBy_15 rfl hl (by decide) rfl (fun ls hl => ?_)
    refine lv_iload_n hx hb dX5_yearsKeptBy_16 rfl (lv_at hl 1 rfl) ?_
    refine lv_iconst (v := 3) hx hb dX5_yearsKeptBy_17 (by decide) ?_
    refine z_roSi (As := [.int kd0, .int 3]) (rest := []) ⟨hx, hb, hml, hown, hts⟩ (c_X5_isOfKind l D cI cZ cA kd0 3 ) (va_cwS 2 hts gX5_yearsKeptBy_X5_isOfKind rfl rfl rfl (by decide +kernel) ⟨Nat.le_of_ble_eq_true rfl, Nat.le_of_ble_eq_true rfl⟩) hE hP [] rfl rfl hl.1 rfl (Nat.le_of_ble_eq_true rfl) dX5_yearsKeptBy_18 ⟨Nat.zero_le _, Nat.zero_le _⟩ ?_
    refine lv_if_eq (tgt := 30) hx hb dX5_yearsKeptBy_21 (by decide) (fun c_21 => ?_) (fun c_21 => ?_)
    · have c_21 := zb_0 c_21
      simp at c_21
      refine lv_iload_n hx hb dX5_yearsKeptBy_30 rfl (lv_at hl 3 rfl) ?_
      refine lv_istore (lv' := [(4, .int hd0), (3, .int fa0), (0, .int kd0), (1, .int fa0), (2, .int hd0)]) hx hb dX5_yearsKeptBy_31 hl (by decide) rfl (fun ls hl => ?_)
      refine lv_iload_n hx hb dX5_yearsKeptBy_33 rfl (lv_at hl 2 rfl) ?_
      refine lv_iconst (v := 1) hx hb dX5_yearsKeptBy_34 (by decide) ?_
      refine z_roSi (As := [.int kd0, .int 1]) (rest := []) ⟨hx, hb, hml, hown, hts⟩ (c_X5_isOfKind l D cI cZ cA kd0 1 ) (va_cwS 2 hts gX5_yearsKeptBy_X5_isOfKind rfl rfl rfl (by decide +kernel) ⟨Nat.le_of_ble_eq_true rfl, Nat.le_of_ble_eq_true rfl⟩) hE hP [] rfl rfl hl.1 rfl (Nat.le_of_ble_eq_true rfl) dX5_yearsKeptBy_35 ⟨Nat.zero_le _, Nat.zero_le _⟩ ?_
      refine lv_if_eq (tgt := 45) hx hb dX5_yearsKeptBy_38 (by decide) (fun c_38 => ?_) (fun c_38 => ?_)
      · have c_38 := zb_0 c_38
        simp at c_38
        refine lv_iconst (v := 0) hx hb dX5_yearsKeptBy_45 (by decide) ?_
        refine lv_istore (lv' := [(5, .int 0), (4, .int hd0), (3, .int fa0), (0, .int kd0), (1, .int fa0), (2, .int hd0)]) hx hb dX5_yearsKeptBy_46 hl (by decide) rfl (fun ls hl => ?_)
        refine lv_iload hx hb dX5_yearsKeptBy_48 (lv_at hl 0 rfl) ?_
        refine lv_bipush (v := 10) hx hb dX5_yearsKeptBy_50 (by decide) ?_
        refine lv_iload_n hx hb dX5_yearsKeptBy_52 rfl (lv_at hl 2 rfl) ?_
        refine lv_iconst (v := 5) hx hb dX5_yearsKeptBy_53 (by decide) ?_
        refine lv_iadd hx hb dX5_yearsKeptBy_54 ?_
        refine lv_iload hx hb dX5_yearsKeptBy_55 (lv_at hl 1 rfl) ?_
        refine lv_isub hx hb dX5_yearsKeptBy_57 ?_
        refine va_mmin (hx) hb (by rw [hml]; exact hl.1.symm) hown k_0 k_1 k_2 k_3 (Nat.le_of_ble_eq_true rfl) (Nat.le_of_ble_eq_true rfl) (Nat.zero_le _) (Nat.zero_le _) dX5_yearsKeptBy_58 ?_
        refine va_mmax (hx) hb (by rw [hml]; exact hl.1.symm) hown k_4 k_5 k_2 k_6 (Nat.le_of_ble_eq_true rfl) (Nat.le_of_ble_eq_true rfl) (Nat.zero_le _) (Nat.zero_le _) dX5_yearsKeptBy_61 ?_
        exact W.iret (v := (if 0 < (if ((fa0 + 5) - hd0) < 10 then ((fa0 + 5) - hd0) else 10) then (if ((fa0 + 5) - hd0) < 10 then ((fa0 + 5) - hd0) else 10) else 0)) hx hb hr (fun t ht hW => ⟨(if 0 < (if ((fa0 + 5) - hd0) < 10 then ((fa0 + 5) - hd0) else 10) then (if ((fa0 + 5) - hd0) < 10 then ((fa0 + 5) - hd0) else 10) else 0), rfl, (by unfold yk; grind), ht⟩) (fun q h => by cases h) dX5_yearsKeptBy_64
      · have c_38 := zb_1 c_38
        simp at c_38
        refine lv_iconst (v := 3) hx hb dX5_yearsKeptBy_41 (by decide) ?_
        refine lv_goto (tgt := 46) hx hb dX5_yearsKeptBy_42 (by decide) ?_
        refine lv_istore (lv' := [(5, .int 3), (4, .int hd0), (3, .int fa0), (0, .int kd0), (1, .int fa0), (2, .int hd0)]) hx hb dX5_yearsKeptBy_46 hl (by decide) rfl (fun ls hl => ?_)
        refine lv_iload hx hb dX5_yearsKeptBy_48 (lv_at hl 0 rfl) ?_
        refine lv_bipush (v := 10) hx hb dX5_yearsKeptBy_50 (by decide) ?_
        refine lv_iload_n hx hb dX5_yearsKeptBy_52 rfl (lv_at hl 2 rfl) ?_
        refine lv_iconst (v := 5) hx hb dX5_yearsKeptBy_53 (by decide) ?_
        refine lv_iadd hx hb dX5_yearsKeptBy_54 ?_
        refine lv_iload hx hb dX5_yearsKeptBy_55 (lv_at hl 1 rfl) ?_
        refine lv_isub hx hb dX5_yearsKeptBy_57 ?_
        refine va_mmin (hx) hb (by rw [hml]; exact hl.1.symm) hown k_0 k_1 k_2 k_3 (Nat.le_of_ble_eq_true rfl) (Nat.le_of_ble_eq_true rfl) (Nat.zero_le _) (Nat.zero_le _) dX5_yearsKeptBy_58 ?_
        refine va_mmax (hx) hb (by rw [hml]; exact hl.1.symm) hown k_4 k_5 k_2 k_6 (Nat.le_of_ble_eq_true rfl) (Nat.le_of_ble_eq_true rfl) (Nat.zero_le _) (Nat.zero_le _) dX5_yearsKeptBy_61 ?_
        exact W.iret (v := (if 3 < (if ((fa0 + 5) - hd0) < 10 then ((fa0 + 5) - hd0) else 10) then (if ((fa0 + 5) - hd0) < 10 then ((fa0 + 5) - hd0) else 10) else 3)) hx hb hr (fun t ht hW => ⟨(if 3 < (if ((fa0 + 5) - hd0) < 10 then ((fa0 + 5) - hd0) else 10) then (if ((fa0 + 5) - hd0) < 10 then ((fa0 + 5) - hd0) else 10) else 3), rfl, (by unfold yk; grind), ht⟩) (fun q h => by cases h) dX5_yearsKeptBy_64
    · have c_21 := zb_1 c_21
      simp at c_21
      refine lv_iconst (v := 2) hx hb dX5_yearsKeptBy_24 (by decide) ?_
      refine lv_iload_n hx hb dX5_yearsKeptBy_25 rfl (lv_at hl 3 rfl) ?_
      refine lv_imul hx hb dX5_yearsKeptBy_26 ?_
      refine lv_goto (tgt := 31) hx hb dX5_yearsKeptBy_27 (by decide) ?_
      refine lv_istore (lv' := [(4, .int (2 * hd0)), (3, .int fa0), (0, .int kd0), (1, .int fa0), (2, .int hd0)]) hx hb dX5_yearsKeptBy_31 hl (by decide) rfl (fun ls hl => ?_)
      refine lv_iload_n hx hb dX5_yearsKeptBy_33 rfl (lv_at hl 2 rfl) ?_
      refine lv_iconst (v := 1) hx hb dX5_yearsKeptBy_34 (by decide) ?_
      refine z_roSi (As := [.int kd0, .int 1]) (rest := []) ⟨hx, hb, hml, hown, hts⟩ (c_X5_isOfKind l D cI cZ cA kd0 1 ) (va_cwS 2 hts gX5_yearsKeptBy_X5_isOfKind rfl rfl rfl (by decide +kernel) ⟨Nat.le_of_ble_eq_true rfl, Nat.le_of_ble_eq_true rfl⟩) hE hP [] rfl rfl hl.1 rfl (Nat.le_of_ble_eq_true rfl) dX5_yearsKeptBy_35 ⟨Nat.zero_le _, Nat.zero_le _⟩ ?_
      refine lv_if_eq (tgt := 45) hx hb dX5_yearsKeptBy_38 (by decide) (fun c_38 => ?_) (fun c_38 => ?_)
      · have c_38 := zb_0 c_38
        simp at c_38
        refine lv_iconst (v := 0) hx hb dX5_yearsKeptBy_45 (by decide) ?_
        refine lv_istore (lv' := [(5, .int 0), (4, .int (2 * hd0)), (3, .int fa0), (0, .int kd0), (1, .int fa0), (2, .int hd0)]) hx hb dX5_yearsKeptBy_46 hl (by decide) rfl (fun ls hl => ?_)
        refine lv_iload hx hb dX5_yearsKeptBy_48 (lv_at hl 0 rfl) ?_
        refine lv_bipush (v := 10) hx hb dX5_yearsKeptBy_50 (by decide) ?_
        refine lv_iload_n hx hb dX5_yearsKeptBy_52 rfl (lv_at hl 2 rfl) ?_
        refine lv_iconst (v := 5) hx hb dX5_yearsKeptBy_53 (by decide) ?_
        refine lv_iadd hx hb dX5_yearsKeptBy_54 ?_
        refine lv_iload hx hb dX5_yearsKeptBy_55 (lv_at hl 1 rfl) ?_
        refine lv_isub hx hb dX5_yearsKeptBy_57 ?_
        refine va_mmin (hx) hb (by rw [hml]; exact hl.1.symm) hown k_0 k_1 k_2 k_3 (Nat.le_of_ble_eq_true rfl) (Nat.le_of_ble_eq_true rfl) (Nat.zero_le _) (Nat.zero_le _) dX5_yearsKeptBy_58 ?_
        refine va_mmax (hx) hb (by rw [hml]; exact hl.1.symm) hown k_4 k_5 k_2 k_6 (Nat.le_of_ble_eq_true rfl) (Nat.le_of_ble_eq_true rfl) (Nat.zero_le _) (Nat.zero_le _) dX5_yearsKeptBy_61 ?_
        exact W.iret (v := (if 0 < (if ((fa0 + 5) - (2 * hd0)) < 10 then ((fa0 + 5) - (2 * hd0)) else 10) then (if ((fa0 + 5) - (2 * hd0)) < 10 then ((fa0 + 5) - (2 * hd0)) else 10) else 0)) hx hb hr (fun t ht hW => ⟨(if 0 < (if ((fa0 + 5) - (2 * hd0)) < 10 then ((fa0 + 5) - (2 * hd0)) else 10) then (if ((fa0 + 5) - (2 * hd0)) < 10 then ((fa0 + 5) - (2 * hd0)) else 10) else 0), rfl, (by unfold yk; grind), ht⟩) (fun q h => by cases h) dX5_yearsKeptBy_64
      · have c_38 := zb_1 c_38
        simp at c_38
        refine lv_iconst (v := 3) hx hb dX5_yearsKeptBy_41 (by decide) ?_
        refine lv_goto (tgt := 46) hx hb dX5_yearsKeptBy_42 (by decide) ?_
        refine lv_istore (lv' := [(5, .int 3), (4, .int (2 * hd0)), (3, .int fa0), (0, .int kd0), (1, .int fa0), (2, .int hd0)]) hx hb dX5_yearsKeptBy_46 hl (by decide) rfl (fun ls hl => ?_)
        refine lv_iload hx hb dX5_yearsKeptBy_48 (lv_at hl 0 rfl) ?_
        refine lv_bipush (v := 10) hx hb dX5_yearsKeptBy_50 (by decide) ?_
        refine lv_iload_n hx hb dX5_yearsKeptBy_52 rfl (lv_at hl 2 rfl) ?_
        refine lv_iconst (v := 5) hx hb dX5_yearsKeptBy_53 (by decide) ?_
        refine lv_iadd hx hb dX5_yearsKeptBy_54 ?_
        refine lv_iload hx hb dX5_yearsKeptBy_55 (lv_at hl 1 rfl) ?_
        refine lv_isub hx hb dX5_yearsKeptBy_57 ?_
        refine va_mmin (hx) hb (by rw [hml]; exact hl.1.symm) hown k_0 k_1 k_2 k_3 (Nat.le_of_ble_eq_true rfl) (Nat.le_of_ble_eq_true rfl) (Nat.zero_le _) (Nat.zero_le _) dX5_yearsKeptBy_58 ?_
        refine va_mmax (hx) hb (by rw [hml]; exact hl.1.symm) hown k_4 k_5 k_2 k_6 (Nat.le_of_ble_eq_true rfl) (Nat.le_of_ble_eq_true rfl) (Nat.zero_le _) (Nat.zero_le _) dX5_yearsKeptBy_61 ?_
        exact W.iret (v := (if 3 < (if ((fa0 + 5) - (2 * hd0)) < 10 then ((fa0 + 5) - (2 * hd0)) else 10) then (if ((fa0 + 5) - (2 * hd0)) < 10 then ((fa0 + 5) - (2 * hd0)) else 10) else 3)) hx hb hr (fun t ht hW => ⟨(if 3 < (if ((fa0 + 5) - (2 * hd0)) < 10 then ((fa0 + 5) - (2 * hd0)) else 10) then (if ((fa0 + 5) - (2 * hd0)) < 10 then ((fa0 + 5) - (2 * hd0)) else 10) else 3), rfl, (by unfold yk; grind), ht⟩) (fun q h => by cases h) dX5_yearsKeptBy_64
  · have c_5 := zb_1 c_5
    simp at c_5
    refine lv_iload_n hx hb dX5_yearsKeptBy_8 rfl (lv_at hl 1 rfl) ?_
    refine lv_iconst (v := 2) hx hb dX5_yearsKeptBy_9 (by decide) ?_
    refine lv_iadd hx hb dX5_yearsKeptBy_10 ?_
    refine lv_goto (tgt := 15) hx hb dX5_yearsKeptBy_11 (by decide) ?_
    refine lv_istore_n (lv' := [(3, .int (fa0 + 2)), (0, .int kd0), (1, .int fa0), (2, .int hd0)]) hx hb dX5_yearsKeptBy_15 rfl hl (by decide) rfl (fun ls hl => ?_)
    refine lv_iload_n hx hb dX5_yearsKeptBy_16 rfl (lv_at hl 1 rfl) ?_
    refine lv_iconst (v := 3) hx hb dX5_yearsKeptBy_17 (by decide) ?_
    refine z_roSi (As := [.int kd0, .int 3]) (rest := []) ⟨hx, hb, hml, hown, hts⟩ (c_X5_isOfKind l D cI cZ cA kd0 3 ) (va_cwS 2 hts gX5_yearsKeptBy_X5_isOfKind rfl rfl rfl (by decide +kernel) ⟨Nat.le_of_ble_eq_true rfl, Nat.le_of_ble_eq_true rfl⟩) hE hP [] rfl rfl hl.1 rfl (Nat.le_of_ble_eq_true rfl) dX5_yearsKeptBy_18 ⟨Nat.zero_le _, Nat.zero_le _⟩ ?_
    refine lv_if_eq (tgt := 30) hx hb dX5_yearsKeptBy_21 (by decide) (fun c_21 => ?_) (fun c_21 => ?_)
    · have c_21 := zb_0 c_21
      simp at c_21
      refine lv_iload_n hx hb dX5_yearsKeptBy_30 rfl (lv_at hl 3 rfl) ?_
      refine lv_istore (lv' := [(4, .int hd0), (3, .int (fa0 + 2)), (0, .int kd0), (1, .int fa0), (2, .int hd0)]) hx hb dX5_yearsKeptBy_31 hl (by decide) rfl (fun ls hl => ?_)
      refine lv_iload_n hx hb dX5_yearsKeptBy_33 rfl (lv_at hl 2 rfl) ?_
      refine lv_iconst (v := 1) hx hb dX5_yearsKeptBy_34 (by decide) ?_
      refine z_roSi (As := [.int kd0, .int 1]) (rest := []) ⟨hx, hb, hml, hown, hts⟩ (c_X5_isOfKind l D cI cZ cA kd0 1 ) (va_cwS 2 hts gX5_yearsKeptBy_X5_isOfKind rfl rfl rfl (by decide +kernel) ⟨Nat.le_of_ble_eq_true rfl, Nat.le_of_ble_eq_true rfl⟩) hE hP [] rfl rfl hl.1 rfl (Nat.le_of_ble_eq_true rfl) dX5_yearsKeptBy_35 ⟨Nat.zero_le _, Nat.zero_le _⟩ ?_
      refine lv_if_eq (tgt := 45) hx hb dX5_yearsKeptBy_38 (by decide) (fun c_38 => ?_) (fun c_38 => ?_)
      · have c_38 := zb_0 c_38
        simp at c_38
        refine lv_iconst (v := 0) hx hb dX5_yearsKeptBy_45 (by decide) ?_
        refine lv_istore (lv' := [(5, .int 0), (4, .int hd0), (3, .int (fa0 + 2)), (0, .int kd0), (1, .int fa0), (2, .int hd0)]) hx hb dX5_yearsKeptBy_46 hl (by decide) rfl (fun ls hl => ?_)
        refine lv_iload hx hb dX5_yearsKeptBy_48 (lv_at hl 0 rfl) ?_
        refine lv_bipush (v := 10) hx hb dX5_yearsKeptBy_50 (by decide) ?_
        refine lv_iload_n hx hb dX5_yearsKeptBy_52 rfl (lv_at hl 2 rfl) ?_
        refine lv_iconst (v := 5) hx hb dX5_yearsKeptBy_53 (by decide) ?_
        refine lv_iadd hx hb dX5_yearsKeptBy_54 ?_
        refine lv_iload hx hb dX5_yearsKeptBy_55 (lv_at hl 1 rfl) ?_
        refine lv_isub hx hb dX5_yearsKeptBy_57 ?_
        refine va_mmin (hx) hb (by rw [hml]; exact hl.1.symm) hown k_0 k_1 k_2 k_3 (Nat.le_of_ble_eq_true rfl) (Nat.le_of_ble_eq_true rfl) (Nat.zero_le _) (Nat.zero_le _) dX5_yearsKeptBy_58 ?_
        refine va_mmax (hx) hb (by rw [hml]; exact hl.1.symm) hown k_4 k_5 k_2 k_6 (Nat.le_of_ble_eq_true rfl) (Nat.le_of_ble_eq_true rfl) (Nat.zero_le _) (Nat.zero_le _) dX5_yearsKeptBy_61 ?_
        exact W.iret (v := (if 0 < (if (((fa0 + 2) + 5) - hd0) < 10 then (((fa0 + 2) + 5) - hd0) else 10) then (if (((fa0 + 2) + 5) - hd0) < 10 then (((fa0 + 2) + 5) - hd0) else 10) else 0)) hx hb hr (fun t ht hW => ⟨(if 0 < (if (((fa0 + 2) + 5) - hd0) < 10 then (((fa0 + 2) + 5) - hd0) else 10) then (if (((fa0 + 2) + 5) - hd0) < 10 then (((fa0 + 2) + 5) - hd0) else 10) else 0), rfl, (by unfold yk; grind), ht⟩) (fun q h => by cases h) dX5_yearsKeptBy_64
      · have c_38 := zb_1 c_38
        simp at c_38
        refine lv_iconst (v := 3) hx hb dX5_yearsKeptBy_41 (by decide) ?_
        refine lv_goto (tgt := 46) hx hb dX5_yearsKeptBy_42 (by decide) ?_
        refine lv_istore (lv' := [(5, .int 3), (4, .int hd0), (3, .int (fa0 + 2)), (0, .int kd0), (1, .int fa0), (2, .int hd0)]) hx hb dX5_yearsKeptBy_46 hl (by decide) rfl (fun ls hl => ?_)
        refine lv_iload hx hb dX5_yearsKeptBy_48 (lv_at hl 0 rfl) ?_
        refine lv_bipush (v := 10) hx hb dX5_yearsKeptBy_50 (by decide) ?_
        refine lv_iload_n hx hb dX5_yearsKeptBy_52 rfl (lv_at hl 2 rfl) ?_
        refine lv_iconst (v := 5) hx hb dX5_yearsKeptBy_53 (by decide) ?_
        refine lv_iadd hx hb dX5_yearsKeptBy_54 ?_
        refine lv_iload hx hb dX5_yearsKeptBy_55 (lv_at hl 1 rfl) ?_
        refine lv_isub hx hb dX5_yearsKeptBy_57 ?_
        refine va_mmin (hx) hb (by rw [hml]; exact hl.1.symm) hown k_0 k_1 k_2 k_3 (Nat.le_of_ble_eq_true rfl) (Nat.le_of_ble_eq_true rfl) (Nat.zero_le _) (Nat.zero_le _) dX5_yearsKeptBy_58 ?_
        refine va_mmax (hx) hb (by rw [hml]; exact hl.1.symm) hown k_4 k_5 k_2 k_6 (Nat.le_of_ble_eq_true rfl) (Nat.le_of_ble_eq_true rfl) (Nat.zero_le _) (Nat.zero_le _) dX5_yearsKeptBy_61 ?_
        exact W.iret (v := (if 3 < (if (((fa0 + 2) + 5) - hd0) < 10 then (((fa0 + 2) + 5) - hd0) else 10) then (if (((fa0 + 2) + 5) - hd0) < 10 then (((fa0 + 2) + 5) - hd0) else 10) else 3)) hx hb hr (fun t ht hW => ⟨(if 3 < (if (((fa0 + 2) + 5) - hd0) < 10 then (((fa0 + 2) + 5) - hd0) else 10) then (if (((fa0 + 2) + 5) - hd0) < 10 then (((fa0 + 2) + 5) - hd0) else 10) else 3), rfl, (by unfold yk; grind), ht⟩) (fun q h => by cases h) dX5_yearsKeptBy_64
    · have c_21 := zb_1 c_21
      simp at c_21
      refine lv_iconst (v := 2) hx hb dX5_yearsKeptBy_24 (by decide) ?_
      refine lv_iload_n hx hb dX5_yearsKeptBy_25 rfl (lv_at hl 3 rfl) ?_
      refine lv_imul hx hb dX5_yearsKeptBy_26 ?_
      refine lv_goto (tgt := 31) hx hb dX5_yearsKeptBy_27 (by decide) ?_
      refine lv_istore (lv' := [(4, .int (2 * hd0)), (3, .int (fa0 + 2)), (0, .int kd0), (1, .int fa0), (2, .int hd0)]) hx hb dX5_yearsKeptBy_31 hl (by decide) rfl (fun ls hl => ?_)
      refine lv_iload_n hx hb dX5_yearsKeptBy_33 rfl (lv_at hl 2 rfl) ?_
      refine lv_iconst (v := 1) hx hb dX5_yearsKeptBy_34 (by decide) ?_
      refine z_roSi (As := [.int kd0, .int 1]) (rest := []) ⟨hx, hb, hml, hown, hts⟩ (c_X5_isOfKind l D cI cZ cA kd0 1 ) (va_cwS 2 hts gX5_yearsKeptBy_X5_isOfKind rfl rfl rfl (by decide +kernel) ⟨Nat.le_of_ble_eq_true rfl, Nat.le_of_ble_eq_true rfl⟩) hE hP [] rfl rfl hl.1 rfl (Nat.le_of_ble_eq_true rfl) dX5_yearsKeptBy_35 ⟨Nat.zero_le _, Nat.zero_le _⟩ ?_
      refine lv_if_eq (tgt := 45) hx hb dX5_yearsKeptBy_38 (by decide) (fun c_38 => ?_) (fun c_38 => ?_)
      · have c_38 := zb_0 c_38
        simp at c_38
        refine lv_iconst (v := 0) hx hb dX5_yearsKeptBy_45 (by decide) ?_
        refine lv_istore (lv' := [(5, .int 0), (4, .int (2 * hd0)), (3, .int (fa0 + 2)), (0, .int kd0), (1, .int fa0), (2, .int hd0)]) hx hb dX5_yearsKeptBy_46 hl (by decide) rfl (fun ls hl => ?_)
        refine lv_iload hx hb dX5_yearsKeptBy_48 (lv_at hl 0 rfl) ?_
        refine lv_bipush (v := 10) hx hb dX5_yearsKeptBy_50 (by decide) ?_
        refine lv_iload_n hx hb dX5_yearsKeptBy_52 rfl (lv_at hl 2 rfl) ?_
        refine lv_iconst (v := 5) hx hb dX5_yearsKeptBy_53 (by decide) ?_
        refine lv_iadd hx hb dX5_yearsKeptBy_54 ?_
        refine lv_iload hx hb dX5_yearsKeptBy_55 (lv_at hl 1 rfl) ?_
        refine lv_isub hx hb dX5_yearsKeptBy_57 ?_
        refine va_mmin (hx) hb (by rw [hml]; exact hl.1.symm) hown k_0 k_1 k_2 k_3 (Nat.le_of_ble_eq_true rfl) (Nat.le_of_ble_eq_true rfl) (Nat.zero_le _) (Nat.zero_le _) dX5_yearsKeptBy_58 ?_
        refine va_mmax (hx) hb (by rw [hml]; exact hl.1.symm) hown k_4 k_5 k_2 k_6 (Nat.le_of_ble_eq_true rfl) (Nat.le_of_ble_eq_true rfl) (Nat.zero_le _) (Nat.zero_le _) dX5_yearsKeptBy_61 ?_
        exact W.iret (v := (if 0 < (if (((fa0 + 2) + 5) - (2 * hd0)) < 10 then (((fa0 + 2) + 5) - (2 * hd0)) else 10) then (if (((fa0 + 2) + 5) - (2 * hd0)) < 10 then (((fa0 + 2) + 5) - (2 * hd0)) else 10) else 0)) hx hb hr (fun t ht hW => ⟨(if 0 < (if (((fa0 + 2) + 5) - (2 * hd0)) < 10 then (((fa0 + 2) + 5) - (2 * hd0)) else 10) then (if (((fa0 + 2) + 5) - (2 * hd0)) < 10 then (((fa0 + 2) + 5) - (2 * hd0)) else 10) else 0), rfl, (by unfold yk; grind), ht⟩) (fun q h => by cases h) dX5_yearsKeptBy_64
      · have c_38 := zb_1 c_38
        simp at c_38
        refine lv_iconst (v := 3) hx hb dX5_yearsKeptBy_41 (by decide) ?_
        refine lv_goto (tgt := 46) hx hb dX5_yearsKeptBy_42 (by decide) ?_
        refine lv_istore (lv' := [(5, .int 3), (4, .int (2 * hd0)), (3, .int (fa0 + 2)), (0, .int kd0), (1, .int fa0), (2, .int hd0)]) hx hb dX5_yearsKeptBy_46 hl (by decide) rfl (fun ls hl => ?_)
        refine lv_iload hx hb dX5_yearsKeptBy_48 (lv_at hl 0 rfl) ?_
        refine lv_bipush (v := 10) hx hb dX5_yearsKeptBy_50 (by decide) ?_
        refine lv_iload_n hx hb dX5_yearsKeptBy_52 rfl (lv_at hl 2 rfl) ?_
        refine lv_iconst (v := 5) hx hb dX5_yearsKeptBy_53 (by decide) ?_
        refine lv_iadd hx hb dX5_yearsKeptBy_54 ?_
        refine lv_iload hx hb dX5_yearsKeptBy_55 (lv_at hl 1 rfl) ?_
        refine lv_isub hx hb dX5_yearsKeptBy_57 ?_
        refine va_mmin (hx) hb (by rw [hml]; exact hl.1.symm) hown k_0 k_1 k_2 k_3 (Nat.le_of_ble_eq_true rfl) (Nat.le_of_ble_eq_true rfl) (Nat.zero_le _) (Nat.zero_le _) dX5_yearsKeptBy_58 ?_
        refine va_mmax (hx) hb (by rw [hml]; exact hl.1.symm) hown k_4 k_5 k_2 k_6 (Nat.le_of_ble_eq_true rfl) (Nat.le_of_ble_eq_true rfl) (Nat.zero_le _) (Nat.zero_le _) dX5_yearsKeptBy_61 ?_
        exact W.iret (v := (if 3 < (if (((fa0 + 2) + 5) - (2 * hd0)) < 10 then (((fa0 + 2) + 5) - (2 * hd0)) else 10) then (if (((fa0 + 2) + 5) - (2 * hd0)) < 10 then (((fa0 + 2) + 5) - (2 * hd0)) else 10) else 3)) hx hb hr (fun t ht hW => ⟨(if 3 < (if (((fa0 + 2) + 5) - (2 * hd0)) < 10 then (((fa0 + 2) + 5) - (2 * hd0)) else 10) then (if (((fa0 + 2) + 5) - (2 * hd0)) < 10 then (((fa0 + 2) + 5) - (2 * hd0)) else 10) else 3), rfl, (by unfold yk; grind), ht⟩) (fun q h => by cases h) dX5_yearsKeptBy_64

set_option maxHeartbeats 4000000 in
set_option maxRecDepth 100000 in
theorem c_X5_digestNumber (l : Launch) (D : va_G) (cI cZ cA : ClassId) (h0 : Int64) (v0 : Int64)  : Met l yX5_digestNumber wsX5_digestNumber (zr 1) (va_Pc [.long h0, .long v0] (zPr D cI cZ cA [])) (vp_Sl (fun r => r = 31 * h0 + v0)) 0 0 (fun _ => False) := by
  refine Met.ofW (cc := cX5_digestNumber) (maxL := 4) (ret := (some .long)) (by decide) rfl ?_
  intro p e s m args below meth c s₁ B hml hv
  obtain ⟨rfl, hP, hE⟩ := hv
  have hx := B.exec
  have hb := B.bytes
  have hr := B.returns
  have hts := atoms_spec (ws := wsX5_digestNumber) B.pre
  have hown : s.vm.findClass RX5 = some m.cls := findClass_of_methodNamed B.named
  have hlocks := B.notSynchronized
  have hP : va_P D vwCl [] s.heap := hP
  have hl := lv_entry ([.long h0, .long v0]) (n := 4) (Nat.le_of_ble_eq_true rfl)
  rw [lg_entry_eq]
  generalize (lg_sl ([.long h0, .long v0]) ++ List.replicate (4 - (lg_sl ([.long h0, .long v0])).length) Slot.unset).toArray = ls at hl ⊢
  have hl : lv_has ls 4 [(0, .long h0), (2, .long v0)] := hl
  have k_0 := hts (.constantLong RX5 239 (31)) (by decide +kernel)
  refine lv_ldc2 (v := 31) hx hb hown k_0 dX5_digestNumber_0 ?_
  refine lv_lload_n hx hb dX5_digestNumber_3 rfl (lv_at hl 0 rfl) ?_
  refine lv_lmul hx hb dX5_digestNumber_4 ?_
  refine lv_lload_n hx hb dX5_digestNumber_5 rfl (lv_at hl 1 rfl) ?_
  refine lv_ladd hx hb dX5_digestNumber_6 ?_
  exact W.lret (v := (31 * h0) + v0) hx hb hr (fun t ht hW => ⟨((31 * h0) + v0), rfl, rfl, ht⟩) (fun q h => by cases h) dX5_digestNumber_7

set_option maxHeartbeats 4000000 in
set_option maxRecDepth 100000 in
theorem c_J6_bitCount_0f7a4 (l : Launch) (D : va_G) (cI cZ cA : ClassId) (x0 : Int32)  : Met l yJ6_bitCount_0f7a4 wsJ6_bitCount_0f7a4 (zr 1) (va_Pc [.int x0] (zPr D cI cZ cA [])) (vp_Si (fun r => r = bitc x0)) 0 0 (fun _ => False) := by
  refine Met.ofW (cc := cJ6_bitCount_0f7a4) (maxL := 1) (ret := (some .int)) (by decide) rfl ?_
  intro p e s m args below meth c s₁ B hml hv
  obtain ⟨rfl, hP, hE⟩ := hv
  have hx := B.exec
  have hb := B.bytes
  have hr := B.returns
  have hts := atoms_spec (ws := wsJ6_bitCount_0f7a4) B.pre
  have hown : s.vm.findClass RJ6 = some m.cls := findClass_of_methodNamed B.named
  have hlocks := B.notSynchronized
  have hP : va_P D vwCl [] s.heap := hP
  have hl := lv_entry ([.int x0]) (n := 1) (Nat.le_of_ble_eq_true rfl)
  rw [lg_entry_eq]
  generalize (lg_sl ([.int x0]) ++ List.replicate (1 - (lg_sl ([.int x0])).length) Slot.unset).toArray = ls at hl ⊢
  have hl : lv_has ls 1 [(0, .int x0)] := hl
  have k_0 := hts (.constant RJ6 265 (1431655765)) (by decide +kernel)
  have k_1 := hts (.constant RJ6 266 (858993459)) (by decide +kernel)
  have k_2 := hts (.constant RJ6 267 (252645135)) (by decide +kernel)
  refine lv_iload_n hx hb dJ6_bitCount_0f7a4_0 rfl (lv_at hl 0 rfl) ?_
  refine lv_iload_n hx hb dJ6_bitCount_0f7a4_1 rfl (lv_at hl 0 rfl) ?_
  refine lv_iconst (v := 1) hx hb dJ6_bitCount_0f7a4_2 (by decide) ?_
  refine lv_iushr (v := (x0.toUInt32 >>> ((1 : Int32).toUInt32 &&& Int32.toUInt32 31)).toInt32) hx hb dJ6_bitCount_0f7a4_3 rfl ?_
  refine lv_ldcw (v := 1431655765) hx hb hown k_0 dJ6_bitCount_0f7a4_4 ?_
  refine lv_iand hx hb dJ6_bitCount_0f7a4_7 ?_
  refine lv_isub hx hb dJ6_bitCount_0f7a4_8 ?_
  refine lv_istore_n (lv' := [(0, .int (x0 - (((x0.toUInt32 >>> ((1 : Int32).toUInt32 &&& Int32.toUInt32 31)).toInt32) &&& 1431655765)))]) hx hb dJ6_bitCount_0f7a4_9 rfl hl (by decide) rfl (fun ls hl => ?_)
  refine lv_iload_n hx hb dJ6_bitCount_0f7a4_10 rfl (lv_at hl 0 rfl) ?_
  refine lv_ldcw (v := 858993459) hx hb hown k_1 dJ6_bitCount_0f7a4_11 ?_
  refine lv_iand hx hb dJ6_bitCount_0f7a4_14 ?_
  refine lv_iload_n hx hb dJ6_bitCount_0f7a4_15 rfl (lv_at hl 0 rfl) ?_
  refine lv_iconst (v := 2) hx hb dJ6_bitCount_0f7a4_16 (by decide) ?_
  refine lv_iushr (v := ((x0 - (((x0.toUInt32 >>> ((1 : Int32).toUInt32 &&& Int32.toUInt32 31)).toInt32) &&& 1431655765)).toUInt32 >>> ((2 : Int32).toUInt32 &&& Int32.toUInt32 31)).toInt32) hx hb dJ6_bitCount_0f7a4_17 rfl ?_
  refine lv_ldcw (v := 858993459) hx hb hown k_1 dJ6_bitCount_0f7a4_18 ?_
  refine lv_iand hx hb dJ6_bitCount_0f7a4_21 ?_
  refine lv_iadd hx hb dJ6_bitCount_0f7a4_22 ?_
  refine lv_istore_n (lv' := [(0, .int (((x0 - (((x0.toUInt32 >>> ((1 : Int32).toUInt32 &&& Int32.toUInt32 31)).toInt32) &&& 1431655765)) &&& 858993459) + ((((x0 - (((x0.toUInt32 >>> ((1 : Int32).toUInt32 &&& Int32.toUInt32 31)).toInt32) &&& 1431655765)).toUInt32 >>> ((2 : Int32).toUInt32 &&& Int32.toUInt32 31)).toInt32) &&& 858993459)))]) hx hb dJ6_bitCount_0f7a4_23 rfl hl (by decide) rfl (fun ls hl => ?_)
  refine lv_iload_n hx hb dJ6_bitCount_0f7a4_24 rfl (lv_at hl 0 rfl) ?_
  refine lv_iload_n hx hb dJ6_bitCount_0f7a4_25 rfl (lv_at hl 0 rfl) ?_
  refine lv_iconst (v := 4) hx hb dJ6_bitCount_0f7a4_26 (by decide) ?_
  refine lv_iushr (v := ((((x0 - (((x0.toUInt32 >>> ((1 : Int32).toUInt32 &&& Int32.toUInt32 31)).toInt32) &&& 1431655765)) &&& 858993459) + ((((x0 - (((x0.toUInt32 >>> ((1 : Int32).toUInt32 &&& Int32.toUInt32 31)).toInt32) &&& 1431655765)).toUInt32 >>> ((2 : Int32).toUInt32 &&& Int32.toUInt32 31)).toInt32) &&& 858993459)).toUInt32 >>> ((4 : Int32).toUInt32 &&& Int32.toUInt32 31)).toInt32) hx hb dJ6_bitCount_0f7a4_27 rfl ?_
  refine lv_iadd hx hb dJ6_bitCount_0f7a4_28 ?_
  refine lv_ldcw (v := 252645135) hx hb hown k_2 dJ6_bitCount_0f7a4_29 ?_
  refine lv_iand hx hb dJ6_bitCount_0f7a4_32 ?_
  refine lv_istore_n (lv' := [(0, .int (((((x0 - (((x0.toUInt32 >>> ((1 : Int32).toUInt32 &&& Int32.toUInt32 31)).toInt32) &&& 1431655765)) &&& 858993459) + ((((x0 - (((x0.toUInt32 >>> ((1 : Int32).toUInt32 &&& Int32.toUInt32 31)).toInt32) &&& 1431655765)).toUInt32 >>> ((2 : Int32).toUInt32 &&& Int32.toUInt32 31)).toInt32) &&& 858993459)) + (((((x0 - (((x0.toUInt32 >>> ((1 : Int32).toUInt32 &&& Int32.toUInt32 31)).toInt32) &&& 1431655765)) &&& 858993459) + ((((x0 - (((x0.toUInt32 >>> ((1 : Int32).toUInt32 &&& Int32.toUInt32 31)).toInt32) &&& 1431655765)).toUInt32 >>> ((2 : Int32).toUInt32 &&& Int32.toUInt32 31)).toInt32) &&& 858993459)).toUInt32 >>> ((4 : Int32).toUInt32 &&& Int32.toUInt32 31)).toInt32)) &&& 252645135))]) hx hb dJ6_bitCount_0f7a4_33 rfl hl (by decide) rfl (fun ls hl => ?_)
  refine lv_iload_n hx hb dJ6_bitCount_0f7a4_34 rfl (lv_at hl 0 rfl) ?_
  refine lv_iload_n hx hb dJ6_bitCount_0f7a4_35 rfl (lv_at hl 0 rfl) ?_
  refine lv_bipush (v := 8) hx hb dJ6_bitCount_0f7a4_36 (by decide) ?_
  refine lv_iushr (v := ((((((x0 - (((x0.toUInt32 >>> ((1 : Int32).toUInt32 &&& Int32.toUInt32 31)).toInt32) &&& 1431655765)) &&& 858993459) + ((((x0 - (((x0.toUInt32 >>> ((1 : Int32).toUInt32 &&& Int32.toUInt32 31)).toInt32) &&& 1431655765)).toUInt32 >>> ((2 : Int32).toUInt32 &&& Int32.toUInt32 31)).toInt32) &&& 858993459)) + (((((x0 - (((x0.toUInt32 >>> ((1 : Int32).toUInt32 &&& Int32.toUInt32 31)).toInt32) &&& 1431655765)) &&& 858993459) + ((((x0 - (((x0.toUInt32 >>> ((1 : Int32).toUInt32 &&& Int32.toUInt32 31)).toInt32) &&& 1431655765)).toUInt32 >>> ((2 : Int32).toUInt32 &&& Int32.toUInt32 31)).toInt32) &&& 858993459)).toUInt32 >>> ((4 : Int32).toUInt32 &&& Int32.toUInt32 31)).toInt32)) &&& 252645135).toUInt32 >>> ((8 : Int32).toUInt32 &&& Int32.toUInt32 31)).toInt32) hx hb dJ6_bitCount_0f7a4_38 rfl ?_
  refine lv_iadd hx hb dJ6_bitCount_0f7a4_39 ?_
  refine lv_istore_n (lv' := [(0, .int ((((((x0 - (((x0.toUInt32 >>> ((1 : Int32).toUInt32 &&& Int32.toUInt32 31)).toInt32) &&& 1431655765)) &&& 858993459) + ((((x0 - (((x0.toUInt32 >>> ((1 : Int32).toUInt32 &&& Int32.toUInt32 31)).toInt32) &&& 1431655765)).toUInt32 >>> ((2 : Int32).toUInt32 &&& Int32.toUInt32 31)).toInt32) &&& 858993459)) + (((((x0 - (((x0.toUInt32 >>> ((1 : Int32).toUInt32 &&& Int32.toUInt32 31)).toInt32) &&& 1431655765)) &&& 858993459) + ((((x0 - (((x0.toUInt32 >>> ((1 : Int32).toUInt32 &&& Int32.toUInt32 31)).toInt32) &&& 1431655765)).toUInt32 >>> ((2 : Int32).toUInt32 &&& Int32.toUInt32 31)).toInt32) &&& 858993459)).toUInt32 >>> ((4 : Int32).toUInt32 &&& Int32.toUInt32 31)).toInt32)) &&& 252645135) + (((((((x0 - (((x0.toUInt32 >>> ((1 : Int32).toUInt32 &&& Int32.toUInt32 31)).toInt32) &&& 1431655765)) &&& 858993459) + ((((x0 - (((x0.toUInt32 >>> ((1 : Int32).toUInt32 &&& Int32.toUInt32 31)).toInt32) &&& 1431655765)).toUInt32 >>> ((2 : Int32).toUInt32 &&& Int32.toUInt32 31)).toInt32) &&& 858993459)) + (((((x0 - (((x0.toUInt32 >>> ((1 : Int32).toUInt32 &&& Int32.toUInt32 31)).toInt32) &&& 1431655765)) &&& 858993459) + ((((x0 - (((x0.toUInt32 >>> ((1 : Int32).toUInt32 &&& Int32.toUInt32 31)).toInt32) &&& 1431655765)).toUInt32 >>> ((2 : Int32).toUInt32 &&& Int32.toUInt32 31)).toInt32) &&& 858993459)).toUInt32 >>> ((4 : Int32).toUInt32 &&& Int32.toUInt32 31)).toInt32)) &&& 252645135).toUInt32 >>> ((8 : Int32).toUInt32 &&& Int32.toUInt32 31)).toInt32)))]) hx hb dJ6_bitCount_0f7a4_40 rfl hl (by decide) rfl (fun ls hl => ?_)
  refine lv_iload_n hx hb dJ6_bitCount_0f7a4_41 rfl (lv_at hl 0 rfl) ?_
  refine lv_iload_n hx hb dJ6_bitCount_0f7a4_42 rfl (lv_at hl 0 rfl) ?_
  refine lv_bipush (v := 16) hx hb dJ6_bitCount_0f7a4_43 (by decide) ?_
  refine lv_iushr (v := (((((((x0 - (((x0.toUInt32 >>> ((1 : Int32).toUInt32 &&& Int32.toUInt32 31)).toInt32) &&& 1431655765)) &&& 858993459) + ((((x0 - (((x0.toUInt32 >>> ((1 : Int32).toUInt32 &&& Int32.toUInt32 31)).toInt32) &&& 1431655765)).toUInt32 >>> ((2 : Int32).toUInt32 &&& Int32.toUInt32 31)).toInt32) &&& 858993459)) + (((((x0 - (((x0.toUInt32 >>> ((1 : Int32).toUInt32 &&& Int32.toUInt32 31)).toInt32) &&& 1431655765)) &&& 858993459) + ((((x0 - (((x0.toUInt32 >>> ((1 : Int32).toUInt32 &&& Int32.toUInt32 31)).toInt32) &&& 1431655765)).toUInt32 >>> ((2 : Int32).toUInt32 &&& Int32.toUInt32 31)).toInt32) &&& 858993459)).toUInt32 >>> ((4 : Int32).toUInt32 &&& Int32.toUInt32 31)).toInt32)) &&& 252645135) + (((((((x0 - (((x0.toUInt32 >>> ((1 : Int32).toUInt32 &&& Int32.toUInt32 31)).toInt32) &&& 1431655765)) &&& 858993459) + ((((x0 - (((x0.toUInt32 >>> ((1 : Int32).toUInt32 &&& Int32.toUInt32 31)).toInt32) &&& 1431655765)).toUInt32 >>> ((2 : Int32).toUInt32 &&& Int32.toUInt32 31)).toInt32) &&& 858993459)) + (((((x0 - (((x0.toUInt32 >>> ((1 : Int32).toUInt32 &&& Int32.toUInt32 31)).toInt32) &&& 1431655765)) &&& 858993459) + ((((x0 - (((x0.toUInt32 >>> ((1 : Int32).toUInt32 &&& Int32.toUInt32 31)).toInt32) &&& 1431655765)).toUInt32 >>> ((2 : Int32).toUInt32 &&& Int32.toUInt32 31)).toInt32) &&& 858993459)).toUInt32 >>> ((4 : Int32).toUInt32 &&& Int32.toUInt32 31)).toInt32)) &&& 252645135).toUInt32 >>> ((8 : Int32).toUInt32 &&& Int32.toUInt32 31)).toInt32)).toUInt32 >>> ((16 : Int32).toUInt32 &&& Int32.toUInt32 31)).toInt32) hx hb dJ6_bitCount_0f7a4_45 rfl ?_
  refine lv_iadd hx hb dJ6_bitCount_0f7a4_46 ?_
  refine lv_istore_n (lv' := [(0, .int (((((((x0 - (((x0.toUInt32 >>> ((1 : Int32).toUInt32 &&& Int32.toUInt32 31)).toInt32) &&& 1431655765)) &&& 858993459) + ((((x0 - (((x0.toUInt32 >>> ((1 : Int32).toUInt32 &&& Int32.toUInt32 31)).toInt32) &&& 1431655765)).toUInt32 >>> ((2 : Int32).toUInt32 &&& Int32.toUInt32 31)).toInt32) &&& 858993459)) + (((((x0 - (((x0.toUInt32 >>> ((1 : Int32).toUInt32 &&& Int32.toUInt32 31)).toInt32) &&& 1431655765)) &&& 858993459) + ((((x0 - (((x0.toUInt32 >>> ((1 : Int32).toUInt32 &&& Int32.toUInt32 31)).toInt32) &&& 1431655765)).toUInt32 >>> ((2 : Int32).toUInt32 &&& Int32.toUInt32 31)).toInt32) &&& 858993459)).toUInt32 >>> ((4 : Int32).toUInt32 &&& Int32.toUInt32 31)).toInt32)) &&& 252645135) + (((((((x0 - (((x0.toUInt32 >>> ((1 : Int32).toUInt32 &&& Int32.toUInt32 31)).toInt32) &&& 1431655765)) &&& 858993459) + ((((x0 - (((x0.toUInt32 >>> ((1 : Int32).toUInt32 &&& Int32.toUInt32 31)).toInt32) &&& 1431655765)).toUInt32 >>> ((2 : Int32).toUInt32 &&& Int32.toUInt32 31)).toInt32) &&& 858993459)) + (((((x0 - (((x0.toUInt32 >>> ((1 : Int32).toUInt32 &&& Int32.toUInt32 31)).toInt32) &&& 1431655765)) &&& 858993459) + ((((x0 - (((x0.toUInt32 >>> ((1 : Int32).toUInt32 &&& Int32.toUInt32 31)).toInt32) &&& 1431655765)).toUInt32 >>> ((2 : Int32).toUInt32 &&& Int32.toUInt32 31)).toInt32) &&& 858993459)).toUInt32 >>> ((4 : Int32).toUInt32 &&& Int32.toUInt32 31)).toInt32)) &&& 252645135).toUInt32 >>> ((8 : Int32).toUInt32 &&& Int32.toUInt32 31)).toInt32)) + ((((((((x0 - (((x0.toUInt32 >>> ((1 : Int32).toUInt32 &&& Int32.toUInt32 31)).toInt32) &&& 1431655765)) &&& 858993459) + ((((x0 - (((x0.toUInt32 >>> ((1 : Int32).toUInt32 &&& Int32.toUInt32 31)).toInt32) &&& 1431655765)).toUInt32 >>> ((2 : Int32).toUInt32 &&& Int32.toUInt32 31)).toInt32) &&& 858993459)) + (((((x0 - (((x0.toUInt32 >>> ((1 : Int32).toUInt32 &&& Int32.toUInt32 31)).toInt32) &&& 1431655765)) &&& 858993459) + ((((x0 - (((x0.toUInt32 >>> ((1 : Int32).toUInt32 &&& Int32.toUInt32 31)).toInt32) &&& 1431655765)).toUInt32 >>> ((2 : Int32).toUInt32 &&& Int32.toUInt32 31)).toInt32) &&& 858993459)).toUInt32 >>> ((4 : Int32).toUInt32 &&& Int32.toUInt32 31)).toInt32)) &&& 252645135) + (((((((x0 - (((x0.toUInt32 >>> ((1 : Int32).toUInt32 &&& Int32.toUInt32 31)).toInt32) &&& 1431655765)) &&& 858993459) + ((((x0 - (((x0.toUInt32 >>> ((1 : Int32).toUInt32 &&& Int32.toUInt32 31)).toInt32) &&& 1431655765)).toUInt32 >>> ((2 : Int32).toUInt32 &&& Int32.toUInt32 31)).toInt32) &&& 858993459)) + (((((x0 - (((x0.toUInt32 >>> ((1 : Int32).toUInt32 &&& Int32.toUInt32 31)).toInt32) &&& 1431655765)) &&& 858993459) + ((((x0 - (((x0.toUInt32 >>> ((1 : Int32).toUInt32 &&& Int32.toUInt32 31)).toInt32) &&& 1431655765)).toUInt32 >>> ((2 : Int32).toUInt32 &&& Int32.toUInt32 31)).toInt32) &&& 858993459)).toUInt32 >>> ((4 : Int32).toUInt32 &&& Int32.toUInt32 31)).toInt32)) &&& 252645135).toUInt32 >>> ((8 : Int32).toUInt32 &&& Int32.toUInt32 31)).toInt32)).toUInt32 >>> ((16 : Int32).toUInt32 &&& Int32.toUInt32 31)).toInt32)))]) hx hb dJ6_bitCount_0f7a4_47 rfl hl (by decide) rfl (fun ls hl => ?_)
  refine lv_iload_n hx hb dJ6_bitCount_0f7a4_48 rfl (lv_at hl 0 rfl) ?_
  refine lv_bipush (v := 63) hx hb dJ6_bitCount_0f7a4_49 (by decide) ?_
  refine lv_iand hx hb dJ6_bitCount_0f7a4_51 ?_
  exact W.iret (v := (((((((x0 - (((x0.toUInt32 >>> ((1 : Int32).toUInt32 &&& Int32.toUInt32 31)).toInt32) &&& 1431655765)) &&& 858993459) + ((((x0 - (((x0.toUInt32 >>> ((1 : Int32).toUInt32 &&& Int32.toUInt32 31)).toInt32) &&& 1431655765)).toUInt32 >>> ((2 : Int32).toUInt32 &&& Int32.toUInt32 31)).toInt32) &&& 858993459)) + (((((x0 - (((x0.toUInt32 >>> ((1 : Int32).toUInt32 &&& Int32.toUInt32 31)).toInt32) &&& 1431655765)) &&& 858993459) + ((((x0 - (((x0.toUInt32 >>> ((1 : Int32).toUInt32 &&& Int32.toUInt32 31)).toInt32) &&& 1431655765)).toUInt32 >>> ((2 : Int32).toUInt32 &&& Int32.toUInt32 31)).toInt32) &&& 858993459)).toUInt32 >>> ((4 : Int32).toUInt32 &&& Int32.toUInt32 31)).toInt32)) &&& 252645135) + (((((((x0 - (((x0.toUInt32 >>> ((1 : Int32).toUInt32 &&& Int32.toUInt32 31)).toInt32) &&& 1431655765)) &&& 858993459) + ((((x0 - (((x0.toUInt32 >>> ((1 : Int32).toUInt32 &&& Int32.toUInt32 31)).toInt32) &&& 1431655765)).toUInt32 >>> ((2 : Int32).toUInt32 &&& Int32.toUInt32 31)).toInt32) &&& 858993459)) + (((((x0 - (((x0.toUInt32 >>> ((1 : Int32).toUInt32 &&& Int32.toUInt32 31)).toInt32) &&& 1431655765)) &&& 858993459) + ((((x0 - (((x0.toUInt32 >>> ((1 : Int32).toUInt32 &&& Int32.toUInt32 31)).toInt32) &&& 1431655765)).toUInt32 >>> ((2 : Int32).toUInt32 &&& Int32.toUInt32 31)).toInt32) &&& 858993459)).toUInt32 >>> ((4 : Int32).toUInt32 &&& Int32.toUInt32 31)).toInt32)) &&& 252645135).toUInt32 >>> ((8 : Int32).toUInt32 &&& Int32.toUInt32 31)).toInt32)) + ((((((((x0 - (((x0.toUInt32 >>> ((1 : Int32).toUInt32 &&& Int32.toUInt32 31)).toInt32) &&& 1431655765)) &&& 858993459) + ((((x0 - (((x0.toUInt32 >>> ((1 : Int32).toUInt32 &&& Int32.toUInt32 31)).toInt32) &&& 1431655765)).toUInt32 >>> ((2 : Int32).toUInt32 &&& Int32.toUInt32 31)).toInt32) &&& 858993459)) + (((((x0 - (((x0.toUInt32 >>> ((1 : Int32).toUInt32 &&& Int32.toUInt32 31)).toInt32) &&& 1431655765)) &&& 858993459) + ((((x0 - (((x0.toUInt32 >>> ((1 : Int32).toUInt32 &&& Int32.toUInt32 31)).toInt32) &&& 1431655765)).toUInt32 >>> ((2 : Int32).toUInt32 &&& Int32.toUInt32 31)).toInt32) &&& 858993459)).toUInt32 >>> ((4 : Int32).toUInt32 &&& Int32.toUInt32 31)).toInt32)) &&& 252645135) + (((((((x0 - (((x0.toUInt32 >>> ((1 : Int32).toUInt32 &&& Int32.toUInt32 31)).toInt32) &&& 1431655765)) &&& 858993459) + ((((x0 - (((x0.toUInt32 >>> ((1 : Int32).toUInt32 &&& Int32.toUInt32 31)).toInt32) &&& 1431655765)).toUInt32 >>> ((2 : Int32).toUInt32 &&& Int32.toUInt32 31)).toInt32) &&& 858993459)) + (((((x0 - (((x0.toUInt32 >>> ((1 : Int32).toUInt32 &&& Int32.toUInt32 31)).toInt32) &&& 1431655765)) &&& 858993459) + ((((x0 - (((x0.toUInt32 >>> ((1 : Int32).toUInt32 &&& Int32.toUInt32 31)).toInt32) &&& 1431655765)).toUInt32 >>> ((2 : Int32).toUInt32 &&& Int32.toUInt32 31)).toInt32) &&& 858993459)).toUInt32 >>> ((4 : Int32).toUInt32 &&& Int32.toUInt32 31)).toInt32)) &&& 252645135).toUInt32 >>> ((8 : Int32).toUInt32 &&& Int32.toUInt32 31)).toInt32)).toUInt32 >>> ((16 : Int32).toUInt32 &&& Int32.toUInt32 31)).toInt32)) &&& 63) hx hb hr (fun t ht hW => ⟨((((((((x0 - (((x0.toUInt32 >>> ((1 : Int32).toUInt32 &&& Int32.toUInt32 31)).toInt32) &&& 1431655765)) &&& 858993459) + ((((x0 - (((x0.toUInt32 >>> ((1 : Int32).toUInt32 &&& Int32.toUInt32 31)).toInt32) &&& 1431655765)).toUInt32 >>> ((2 : Int32).toUInt32 &&& Int32.toUInt32 31)).toInt32) &&& 858993459)) + (((((x0 - (((x0.toUInt32 >>> ((1 : Int32).toUInt32 &&& Int32.toUInt32 31)).toInt32) &&& 1431655765)) &&& 858993459) + ((((x0 - (((x0.toUInt32 >>> ((1 : Int32).toUInt32 &&& Int32.toUInt32 31)).toInt32) &&& 1431655765)).toUInt32 >>> ((2 : Int32).toUInt32 &&& Int32.toUInt32 31)).toInt32) &&& 858993459)).toUInt32 >>> ((4 : Int32).toUInt32 &&& Int32.toUInt32 31)).toInt32)) &&& 252645135) + (((((((x0 - (((x0.toUInt32 >>> ((1 : Int32).toUInt32 &&& Int32.toUInt32 31)).toInt32) &&& 1431655765)) &&& 858993459) + ((((x0 - (((x0.toUInt32 >>> ((1 : Int32).toUInt32 &&& Int32.toUInt32 31)).toInt32) &&& 1431655765)).toUInt32 >>> ((2 : Int32).toUInt32 &&& Int32.toUInt32 31)).toInt32) &&& 858993459)) + (((((x0 - (((x0.toUInt32 >>> ((1 : Int32).toUInt32 &&& Int32.toUInt32 31)).toInt32) &&& 1431655765)) &&& 858993459) + ((((x0 - (((x0.toUInt32 >>> ((1 : Int32).toUInt32 &&& Int32.toUInt32 31)).toInt32) &&& 1431655765)).toUInt32 >>> ((2 : Int32).toUInt32 &&& Int32.toUInt32 31)).toInt32) &&& 858993459)).toUInt32 >>> ((4 : Int32).toUInt32 &&& Int32.toUInt32 31)).toInt32)) &&& 252645135).toUInt32 >>> ((8 : Int32).toUInt32 &&& Int32.toUInt32 31)).toInt32)) + ((((((((x0 - (((x0.toUInt32 >>> ((1 : Int32).toUInt32 &&& Int32.toUInt32 31)).toInt32) &&& 1431655765)) &&& 858993459) + ((((x0 - (((x0.toUInt32 >>> ((1 : Int32).toUInt32 &&& Int32.toUInt32 31)).toInt32) &&& 1431655765)).toUInt32 >>> ((2 : Int32).toUInt32 &&& Int32.toUInt32 31)).toInt32) &&& 858993459)) + (((((x0 - (((x0.toUInt32 >>> ((1 : Int32).toUInt32 &&& Int32.toUInt32 31)).toInt32) &&& 1431655765)) &&& 858993459) + ((((x0 - (((x0.toUInt32 >>> ((1 : Int32).toUInt32 &&& Int32.toUInt32 31)).toInt32) &&& 1431655765)).toUInt32 >>> ((2 : Int32).toUInt32 &&& Int32.toUInt32 31)).toInt32) &&& 858993459)).toUInt32 >>> ((4 : Int32).toUInt32 &&& Int32.toUInt32 31)).toInt32)) &&& 252645135) + (((((((x0 - (((x0.toUInt32 >>> ((1 : Int32).toUInt32 &&& Int32.toUInt32 31)).toInt32) &&& 1431655765)) &&& 858993459) + ((((x0 - (((x0.toUInt32 >>> ((1 : Int32).toUInt32 &&& Int32.toUInt32 31)).toInt32) &&& 1431655765)).toUInt32 >>> ((2 : Int32).toUInt32 &&& Int32.toUInt32 31)).toInt32) &&& 858993459)) + (((((x0 - (((x0.toUInt32 >>> ((1 : Int32).toUInt32 &&& Int32.toUInt32 31)).toInt32) &&& 1431655765)) &&& 858993459) + ((((x0 - (((x0.toUInt32 >>> ((1 : Int32).toUInt32 &&& Int32.toUInt32 31)).toInt32) &&& 1431655765)).toUInt32 >>> ((2 : Int32).toUInt32 &&& Int32.toUInt32 31)).toInt32) &&& 858993459)).toUInt32 >>> ((4 : Int32).toUInt32 &&& Int32.toUInt32 31)).toInt32)) &&& 252645135).toUInt32 >>> ((8 : Int32).toUInt32 &&& Int32.toUInt32 31)).toInt32)).toUInt32 >>> ((16 : Int32).toUInt32 &&& Int32.toUInt32 31)).toInt32)) &&& 63), rfl, rfl, ht⟩) (fun q h => by cases h) dJ6_bitCount_0f7a4_52

set_option maxHeartbeats 4000000 in
set_option maxRecDepth 100000 in
theorem c_X5_sum (l : Launch) (D : va_G) (cI cZ cA : ClassId) (a0 : Nat) (f0 : Nat → Int32)  : Met l yX5_sum wsX5_sum (zr 1) (va_Pc [.ref a0] (zPr D cI cZ cA [(a0, .inl (cI, 5, .inl f0))])) (vp_Si (fun r => r = sumN f0 5)) 0 0 (fun _ => False) := by
  refine Met.ofW (cc := cX5_sum) (maxL := 6) (ret := (some .int)) (by decide) rfl ?_
  intro p e s m args below meth c s₁ B hml hv
  obtain ⟨rfl, hP, hE⟩ := hv
  have hx := B.exec
  have hb := B.bytes
  have hr := B.returns
  have hts := atoms_spec (ws := wsX5_sum) B.pre
  have hown : s.vm.findClass RX5 = some m.cls := findClass_of_methodNamed B.named
  have hlocks := B.notSynchronized
  have hP : va_P D vwCl [(a0, .inl (cI, 5, .inl f0))] s.heap := hP
  have hl := lv_entry ([.ref a0]) (n := 6) (Nat.le_of_ble_eq_true rfl)
  rw [lg_entry_eq]
  generalize (lg_sl ([.ref a0]) ++ List.replicate (6 - (lg_sl ([.ref a0])).length) Slot.unset).toArray = ls at hl ⊢
  have hl : lv_has ls 6 [(0, .ref a0)] := hl
  refine lv_iconst (v := 0) hx hb dX5_sum_0 (by decide) ?_
  refine lv_istore_n (lv' := [(1, .int 0), (0, .ref a0)]) hx hb dX5_sum_1 rfl hl (by decide) rfl (fun ls hl => ?_)
  refine lv_aload_n hx hb dX5_sum_2 rfl (lv_at hl 1 rfl) ?_
  refine lv_astore_n (lv' := [(2, .ref a0), (1, .int 0), (0, .ref a0)]) hx hb dX5_sum_3 rfl hl (by decide) rfl (fun ls hl => ?_)
  refine lv_aload_n hx hb dX5_sum_4 rfl (lv_at hl 0 rfl) ?_
  refine z_alen hx hb hE hP 0 rfl dX5_sum_5 ?_
  refine lv_istore_n (lv' := [(3, .int (nI 5)), (2, .ref a0), (1, .int 0), (0, .ref a0)]) hx hb dX5_sum_6 rfl hl (by decide) rfl (fun ls hl => ?_)
  refine lv_iconst (v := 0) hx hb dX5_sum_7 (by decide) ?_
  refine lv_istore (lv' := [(4, .int 0), (3, .int (nI 5)), (2, .ref a0), (1, .int 0), (0, .ref a0)]) hx hb dX5_sum_8 hl (by decide) rfl (fun ls hl => ?_)
  have hc10_1 : ∀ (n : Nat) (i : Nat), (i ≤ 5) → (5 + 1 ≤ i + n) → ∀ (w1 : Int32), w1 = sumN f0 i → ∀ (w4 : Int32), w4 = nI i → ∀ (ls : Array Slot), lv_has ls 6 [(4, .int w4), (3, .int (nI 5)), (2, .ref a0), (1, .int w1), (0, .ref a0)] → W p l e (headSpec wsX5_sum (zr 1)).room s m ([.ref a0] : List Value).toArray below meth c s.heap [] 0 0 (MQ below (vp_Si (fun r => r = sumN f0 5)) ([.ref a0] : List Value).toArray s 0 0 (fun _ => False)) (F0 m 10 ls []) := by
    intro n
    induction n with
    | zero => intro i hi hfu; exact absurd hfu (by omega)
    | succ n ihhc10_1 =>
      intro i hi hfu w1 ew1 w4 ew4 ls hl
      subst ew1
      subst ew4
      refine lv_iload hx hb dX5_sum_10 (lv_at hl 0 rfl) ?_
      refine lv_iload_n hx hb dX5_sum_12 rfl (lv_at hl 1 rfl) ?_
      refine lv_icmp_ge (tgt := 33) hx hb dX5_sum_13 (by decide) (fun c_13 => ?_) (fun c_13 => ?_)
      · have n_13 := zn_le (a := 5) (b := i) rfl rfl c_13 (by omega) (by omega)
        obtain rfl : i = 5 := by omega
        refine lv_iload_n hx hb dX5_sum_33 rfl (lv_at hl 3 rfl) ?_
        exact W.iret (v := sumN f0 5) hx hb hr (fun t ht hW => ⟨(sumN f0 5), rfl, rfl, ht⟩) (fun q h => by cases h) dX5_sum_34
      · have n_13 := zn_nle (a := 5) (b := i) rfl rfl c_13 (by omega) (by omega)
        refine lv_aload_n hx hb dX5_sum_16 rfl (lv_at hl 2 rfl) ?_
        refine lv_iload hx hb dX5_sum_17 (lv_at hl 0 rfl) ?_
        refine z_iald hx hb hE hP 0 rfl (j := i) rfl (by omega) (by decide) dX5_sum_19 ?_
        refine lv_istore (lv' := [(5, .int (f0 i)), (4, .int (nI i)), (3, .int (nI 5)), (2, .ref a0), (1, .int (sumN f0 i)), (0, .ref a0)]) hx hb dX5_sum_20 hl (by decide) rfl (fun ls hl => ?_)
        refine lv_iload_n hx hb dX5_sum_22 rfl (lv_at hl 4 rfl) ?_
        refine lv_iload hx hb dX5_sum_23 (lv_at hl 0 rfl) ?_
        refine lv_iadd hx hb dX5_sum_25 ?_
        refine lv_istore_n (lv' := [(1, .int ((sumN f0 i) + (f0 i))), (5, .int (f0 i)), (4, .int (nI i)), (3, .int (nI 5)), (2, .ref a0), (0, .ref a0)]) hx hb dX5_sum_26 rfl hl (by decide) rfl (fun ls hl => ?_)
        refine lv_iinc (v := nI (i + 1)) (lv' := [(4, .int (nI (i + 1))), (1, .int ((sumN f0 i) + (f0 i))), (5, .int (f0 i)), (3, .int (nI 5)), (2, .ref a0), (0, .ref a0)]) hx hb dX5_sum_27 hl (k := 2) rfl (nI_add i 1) (by decide) rfl (fun ls hl => ?_)
        refine lv_goto (tgt := 10) hx hb dX5_sum_30 (by decide) ?_
        exact ihhc10_1 (i + 1) (by omega) (by omega) ((sumN f0 i) + (f0 i)) rfl (nI (i + 1)) rfl ls (lv_sub hl [0, 3, 4, 1, 5] rfl)
  exact hc10_1 (5 + 1) 0 (by omega) (by omega) 0 rfl 0 rfl ls (lv_sub hl [0, 1, 2, 3, 4] rfl)

set_option maxHeartbeats 4000000 in
set_option maxRecDepth 100000 in
theorem c_X5_greatestDivisor (l : Launch) (D : va_G) (cI cZ cA : ClassId) (x0 : Int64) (y0 : Int64)  : Met l yX5_greatestDivisor wsX5_greatestDivisor (zr 1) (va_Pc [.long x0, .long y0] (zPr D cI cZ cA [])) (vp_Sl (fun r => r = gdN 100 x0 y0)) 0 0 (fun _ => False) := by
  refine Met.ofW (cc := cX5_greatestDivisor) (maxL := 11) (ret := (some .long)) (by decide) rfl ?_
  intro p e s m args below meth c s₁ B hml hv
  obtain ⟨rfl, hP, hE⟩ := hv
  have hx := B.exec
  have hb := B.bytes
  have hr := B.returns
  have hts := atoms_spec (ws := wsX5_greatestDivisor) B.pre
  have hown : s.vm.findClass RX5 = some m.cls := findClass_of_methodNamed B.named
  have hlocks := B.notSynchronized
  have hP : va_P D vwCl [] s.heap := hP
  have hl := lv_entry ([.long x0, .long y0]) (n := 11) (Nat.le_of_ble_eq_true rfl)
  rw [lg_entry_eq]
  generalize (lg_sl ([.long x0, .long y0]) ++ List.replicate (11 - (lg_sl ([.long x0, .long y0])).length) Slot.unset).toArray = ls at hl ⊢
  have hl : lv_has ls 11 [(0, .long x0), (2, .long y0)] := hl
  refine lv_lload_n hx hb dX5_greatestDivisor_0 rfl (lv_at hl 0 rfl) ?_
  refine lv_lstore (lv' := [(4, .long x0), (0, .long x0), (2, .long y0)]) hx hb dX5_greatestDivisor_1 hl (by decide) rfl (fun ls hl => ?_)
  refine lv_lload_n hx hb dX5_greatestDivisor_3 rfl (lv_at hl 2 rfl) ?_
  refine lv_lstore (lv' := [(6, .long y0), (4, .long x0), (0, .long x0), (2, .long y0)]) hx hb dX5_greatestDivisor_4 hl (by decide) rfl (fun ls hl => ?_)
  refine lv_iconst (v := 0) hx hb dX5_greatestDivisor_6 (by decide) ?_
  refine lv_istore (lv' := [(8, .int 0), (6, .long y0), (4, .long x0), (0, .long x0), (2, .long y0)]) hx hb dX5_greatestDivisor_7 hl (by decide) rfl (fun ls hl => ?_)
  have hc9_1 : ∀ (n : Nat) (i : Nat) (a : Int64) (b : Int64), (i ≤ 100) → (gdN (100 - i) a b = gdN 100 x0 y0) → (100 + 1 ≤ i + n) → ∀ (w8 : Int32), w8 = nI i → ∀ (ls : Array Slot), lv_has ls 11 [(8, .int w8), (6, .long b), (4, .long a)] → W p l e (headSpec wsX5_greatestDivisor (zr 1)).room s m ([.long x0, .long y0] : List Value).toArray below meth c s.heap [] 0 0 (MQ below (vp_Sl (fun r => r = gdN 100 x0 y0)) ([.long x0, .long y0] : List Value).toArray s 0 0 (fun _ => False)) (F0 m 9 ls []) := by
    intro n
    induction n with
    | zero => intro i a b hi hg hfu; exact absurd hfu (by omega)
    | succ n ihhc9_1 =>
      intro i a b hi hg hfu w8 ew8 ls hl
      subst ew8
      refine lv_iload hx hb dX5_greatestDivisor_9 (lv_at hl 0 rfl) ?_
      refine lv_bipush (v := 100) hx hb dX5_greatestDivisor_11 (by decide) ?_
      refine lv_icmp_ge (tgt := 44) hx hb dX5_greatestDivisor_13 (by decide) (fun c_13 => ?_) (fun c_13 => ?_)
      · have n_13 := zn_le (a := 100) (b := i) rfl rfl c_13 (by omega) (by omega)
        obtain rfl : i = 100 := by omega
        refine lv_lload hx hb dX5_greatestDivisor_44 (lv_at hl 2 rfl) ?_
        exact W.lret (v := a) hx hb hr (fun t ht hW => ⟨a, rfl, hg, ht⟩) (fun q h => by cases h) dX5_greatestDivisor_46
      · have n_13 := zn_nle (a := 100) (b := i) rfl rfl c_13 (by omega) (by omega)
        refine lv_lload hx hb dX5_greatestDivisor_16 (lv_at hl 1 rfl) ?_
        refine lv_lconst (v := 0) hx hb dX5_greatestDivisor_18 (by decide) ?_
        refine W.lcmp hx hb dX5_greatestDivisor_19 ?_
        refine lv_if_eq (tgt := 44) hx hb dX5_greatestDivisor_20 (by decide) (fun c_20 => ?_) (fun c_20 => ?_)
        · have c_20 := zl_eq c_20
          subst c_20
          rw [gdN_z] at hg
          refine lv_lload hx hb dX5_greatestDivisor_44 (lv_at hl 2 rfl) ?_
          exact W.lret (v := a) hx hb hr (fun t ht hW => ⟨a, rfl, hg, ht⟩) (fun q h => by cases h) dX5_greatestDivisor_46
        · have c_20 := zl_ne c_20
          have hg2 : gdN (100 - (i + 1)) b (a - a / b * b) = gdN 100 x0 y0 := by
            rw [← hg, show 100 - i = (100 - (i + 1)) + 1 by omega, gdN, if_neg c_20]
          refine lv_lload hx hb dX5_greatestDivisor_23 (lv_at hl 2 rfl) ?_
          refine lv_lload hx hb dX5_greatestDivisor_25 (lv_at hl 1 rfl) ?_
          refine lv_lrem hx hb dX5_greatestDivisor_27 c_20 ?_
          refine lv_lstore (lv' := [(9, .long (a - a / b * b)), (8, .int (nI i)), (6, .long b), (4, .long a)]) hx hb dX5_greatestDivisor_28 hl (by decide) rfl (fun ls hl => ?_)
          refine lv_lload hx hb dX5_greatestDivisor_30 (lv_at hl 2 rfl) ?_
          refine lv_lstore (lv' := [(4, .long b), (9, .long (a - a / b * b)), (8, .int (nI i)), (6, .long b)]) hx hb dX5_greatestDivisor_32 hl (by decide) rfl (fun ls hl => ?_)
          refine lv_lload hx hb dX5_greatestDivisor_34 (lv_at hl 1 rfl) ?_
          refine lv_lstore (lv' := [(6, .long (a - a / b * b)), (4, .long b), (9, .long (a - a / b * b)), (8, .int (nI i))]) hx hb dX5_greatestDivisor_36 hl (by decide) rfl (fun ls hl => ?_)
          refine lv_iinc (v := nI (i + 1)) (lv' := [(8, .int (nI (i + 1))), (6, .long (a - a / b * b)), (4, .long b), (9, .long (a - a / b * b))]) hx hb dX5_greatestDivisor_38 hl (k := 3) rfl (nI_add i 1) (by decide) rfl (fun ls hl => ?_)
          refine lv_goto (tgt := 9) hx hb dX5_greatestDivisor_41 (by decide) ?_
          exact ihhc9_1 (i + 1) b (a - a / b * b) (by omega) hg2 (by omega) (nI (i + 1)) rfl ls (lv_sub hl [0, 1, 2] rfl)
  exact hc9_1 (100 + 1) 0 x0 y0 (by omega) rfl (by omega) 0 rfl ls (lv_sub hl [0, 1, 2] rfl)

set_option maxHeartbeats 4000000 in
set_option maxRecDepth 100000 in
theorem c_X2_hasKeeper (l : Launch) (D : va_G) (cI cZ cA : ClassId) (co : Nat) (akd : Nat) (afa : Nat) (ahd : Nat) (K : Nat) (Hn : Nat) (k : Int32)  : Met l yX2_hasKeeper wsX2_hasKeeper (zr 1) (va_Pc [.ref co, .int k] (zPr D cI cZ cA [(co, .inr (2, [.ref akd, .ref afa, .ref ahd, .int (nI K), .int (nI Hn)]))])) (vp_Si (fun r => r = zb (¬ k < 0 ∧ k < nI K))) 0 0 (fun _ => False) := by
  refine Met.ofW (cc := cX2_hasKeeper) (maxL := 2) (ret := (some .boolean)) (by decide) rfl ?_
  intro p e s m args below meth c s₁ B hml hv
  obtain ⟨rfl, hP, hE⟩ := hv
  have hx := B.exec
  have hb := B.bytes
  have hr := B.returns
  have hts := atoms_spec (ws := wsX2_hasKeeper) B.pre
  have hown : s.vm.findClass RX2 = some m.cls := findClass_of_methodNamed B.named
  have hlocks := B.notSynchronized
  have hP : va_P D vwCl [(co, .inr (2, [.ref akd, .ref afa, .ref ahd, .int (nI K), .int (nI Hn)]))] s.heap := hP
  have hl := lv_entry ([.ref co, .int k]) (n := 2) (Nat.le_of_ble_eq_true rfl)
  rw [lg_entry_eq]
  generalize (lg_sl ([.ref co, .int k]) ++ List.replicate (2 - (lg_sl ([.ref co, .int k])).length) Slot.unset).toArray = ls at hl ⊢
  have hl : lv_has ls 2 [(0, .ref co), (1, .int k)] := hl
  have hinX2 : ∀ w ∈ wsX20, w ∈ wsX2_hasKeeper := fun w h => List.mem_cons_of_mem _ (List.mem_append_right _ h)
  have k_0 := hts (.fieldLink RX2 33 "VowDoves$Cote" "keepers" "I") (by decide +kernel)
  refine lv_iload_n hx hb dX2_hasKeeper_0 rfl (lv_at hl 1 rfl) ?_
  refine lv_if_lt (tgt := 16) hx hb dX2_hasKeeper_1 (by decide) (fun c_1 => ?_) (fun c_1 => ?_)
  · refine lv_iconst (v := 0) hx hb dX2_hasKeeper_16 (by decide) ?_
    exact W.zret (v := 0) hx hb hr rfl (fun t ht hW => ⟨0, rfl, (by simp [zb, c_1]), ht⟩) (fun q h => by cases h) dX2_hasKeeper_17
  · refine lv_iload_n hx hb dX2_hasKeeper_4 rfl (lv_at hl 1 rfl) ?_
    refine lv_aload_n hx hb dX2_hasKeeper_5 rfl (lv_at hl 0 rfl) ?_
    refine va_get (D := D) (ci := 2) (v := .int (nI K)) (C := RX2) (T := TX2) (N := 5) hx hb hts hinX2 hown hE.1 hP 0 rfl rfl 3 (by decide) k_0 (fun _ h9 => h9) rfl dX2_hasKeeper_6 ?_
    refine lv_icmp_ge (tgt := 16) hx hb dX2_hasKeeper_9 (by decide) (fun c_9 => ?_) (fun c_9 => ?_)
    · have c_9 := Int32.not_lt.mpr c_9
      refine lv_iconst (v := 0) hx hb dX2_hasKeeper_16 (by decide) ?_
      exact W.zret (v := 0) hx hb hr rfl (fun t ht hW => ⟨0, rfl, (by simp [zb, c_1, c_9]), ht⟩) (fun q h => by cases h) dX2_hasKeeper_17
    · have c_9 := Int32.not_le.mp c_9
      refine lv_iconst (v := 1) hx hb dX2_hasKeeper_12 (by decide) ?_
      refine lv_goto (tgt := 17) hx hb dX2_hasKeeper_13 (by decide) ?_
      exact W.zret (v := 1) hx hb hr rfl (fun t ht hW => ⟨1, rfl, (by simp [zb, c_1, c_9]), ht⟩) (fun q h => by cases h) dX2_hasKeeper_17

set_option maxHeartbeats 4000000 in
set_option maxRecDepth 100000 in
theorem c_X2_hasHole (l : Launch) (D : va_G) (cI cZ cA : ClassId) (co : Nat) (akd : Nat) (afa : Nat) (ahd : Nat) (K : Nat) (Hn : Nat) (k : Int32)  : Met l yX2_hasHole wsX2_hasHole (zr 1) (va_Pc [.ref co, .int k] (zPr D cI cZ cA [(co, .inr (2, [.ref akd, .ref afa, .ref ahd, .int (nI K), .int (nI Hn)]))])) (vp_Si (fun r => r = zb (¬ k < 0 ∧ k < nI Hn))) 0 0 (fun _ => False) := by
  refine Met.ofW (cc := cX2_hasHole) (maxL := 2) (ret := (some .boolean)) (by decide) rfl ?_
  intro p e s m args below meth c s₁ B hml hv
  obtain ⟨rfl, hP, hE⟩ := hv
  have hx := B.exec
  have hb := B.bytes
  have hr := B.returns
  have hts := atoms_spec (ws := wsX2_hasHole) B.pre
  have hown : s.vm.findClass RX2 = some m.cls := findClass_of_methodNamed B.named
  have hlocks := B.notSynchronized
  have hP : va_P D vwCl [(co, .inr (2, [.ref akd, .ref afa, .ref ahd, .int (nI K), .int (nI Hn)]))] s.heap := hP
  have hl := lv_entry ([.ref co, .int k]) (n := 2) (Nat.le_of_ble_eq_true rfl)
  rw [lg_entry_eq]
  generalize (lg_sl ([.ref co, .int k]) ++ List.replicate (2 - (lg_sl ([.ref co, .int k])).length) Slot.unset).toArray = ls at hl ⊢
  have hl : lv_has ls 2 [(0, .ref co), (1, .int k)] := hl
  have hinX2 : ∀ w ∈ wsX20, w ∈ wsX2_hasHole := fun w h => List.mem_cons_of_mem _ (List.mem_append_right _ h)
  have k_0 := hts (.fieldLink RX2 39 "VowDoves$Cote" "holes" "I") (by decide +kernel)
  refine lv_iload_n hx hb dX2_hasHole_0 rfl (lv_at hl 1 rfl) ?_
  refine lv_if_lt (tgt := 16) hx hb dX2_hasHole_1 (by decide) (fun c_1 => ?_) (fun c_1 => ?_)
  · refine lv_iconst (v := 0) hx hb dX2_hasHole_16 (by decide) ?_
    exact W.zret (v := 0) hx hb hr rfl (fun t ht hW => ⟨0, rfl, (by simp [zb, c_1]), ht⟩) (fun q h => by cases h) dX2_hasHole_17
  · refine lv_iload_n hx hb dX2_hasHole_4 rfl (lv_at hl 1 rfl) ?_
    refine lv_aload_n hx hb dX2_hasHole_5 rfl (lv_at hl 0 rfl) ?_
    refine va_get (D := D) (ci := 2) (v := .int (nI Hn)) (C := RX2) (T := TX2) (N := 5) hx hb hts hinX2 hown hE.1 hP 0 rfl rfl 4 (by decide) k_0 (fun _ h9 => h9) rfl dX2_hasHole_6 ?_
    refine lv_icmp_ge (tgt := 16) hx hb dX2_hasHole_9 (by decide) (fun c_9 => ?_) (fun c_9 => ?_)
    · have c_9 := Int32.not_lt.mpr c_9
      refine lv_iconst (v := 0) hx hb dX2_hasHole_16 (by decide) ?_
      exact W.zret (v := 0) hx hb hr rfl (fun t ht hW => ⟨0, rfl, (by simp [zb, c_1, c_9]), ht⟩) (fun q h => by cases h) dX2_hasHole_17
    · have c_9 := Int32.not_le.mp c_9
      refine lv_iconst (v := 1) hx hb dX2_hasHole_12 (by decide) ?_
      refine lv_goto (tgt := 17) hx hb dX2_hasHole_13 (by decide) ?_
      exact W.zret (v := 1) hx hb hr rfl (fun t ht hW => ⟨1, rfl, (by simp [zb, c_1, c_9]), ht⟩) (fun q h => by cases h) dX2_hasHole_17

set_option maxHeartbeats 4000000 in
set_option maxRecDepth 100000 in
theorem c_X2_stands (l : Launch) (D : va_G) (cI cZ cA : ClassId) (co : Nat) (akd : Nat) (afa : Nat) (ahd : Nat) (K : Nat) (Hn : Nat) (hK : K ≤ 5) : Met l yX2_stands wsX2_stands (zr 1) (va_Pc [.ref co] (zPr D cI cZ cA [(co, .inr (2, [.ref akd, .ref afa, .ref ahd, .int (nI K), .int (nI Hn)]))])) (vp_Si (fun r => r = zb (0 < K))) 0 0 (fun _ => False) := by
  refine Met.ofW (cc := cX2_stands) (maxL := 1) (ret := (some .boolean)) (by decide) rfl ?_
  intro p e s m args below meth c s₁ B hml hv
  obtain ⟨rfl, hP, hE⟩ := hv
  have hx := B.exec
  have hb := B.bytes
  have hr := B.returns
  have hts := atoms_spec (ws := wsX2_stands) B.pre
  have hown : s.vm.findClass RX2 = some m.cls := findClass_of_methodNamed B.named
  have hlocks := B.notSynchronized
  have hP : va_P D vwCl [(co, .inr (2, [.ref akd, .ref afa, .ref ahd, .int (nI K), .int (nI Hn)]))] s.heap := hP
  have hl := lv_entry ([.ref co]) (n := 1) (Nat.le_of_ble_eq_true rfl)
  rw [lg_entry_eq]
  generalize (lg_sl ([.ref co]) ++ List.replicate (1 - (lg_sl ([.ref co])).length) Slot.unset).toArray = ls at hl ⊢
  have hl : lv_has ls 1 [(0, .ref co)] := hl
  have hinX2 : ∀ w ∈ wsX20, w ∈ wsX2_stands := fun w h => List.mem_cons_of_mem _ (List.mem_append_right _ h)
  have k_0 := hts (.fieldLink RX2 33 "VowDoves$Cote" "keepers" "I") (by decide +kernel)
  refine lv_aload_n hx hb dX2_stands_0 rfl (lv_at hl 0 rfl) ?_
  refine va_get (D := D) (ci := 2) (v := .int (nI K)) (C := RX2) (T := TX2) (N := 5) hx hb hts hinX2 hown hE.1 hP 0 rfl rfl 3 (by decide) k_0 (fun _ h9 => h9) rfl dX2_stands_1 ?_
  refine lv_if_le (tgt := 11) hx hb dX2_stands_4 (by decide) (fun c_4 => ?_) (fun c_4 => ?_)
  · have n_4 := zn_le (a := K) (b := 0) rfl rfl c_4 (by omega) (by omega)
    refine lv_iconst (v := 0) hx hb dX2_stands_11 (by decide) ?_
    exact W.zret (v := 0) hx hb hr rfl (fun t ht hW => ⟨0, rfl, (by simp [zb]; omega), ht⟩) (fun q h => by cases h) dX2_stands_12
  · have n_4 := zn_nle (a := K) (b := 0) rfl rfl c_4 (by omega) (by omega)
    refine lv_iconst (v := 1) hx hb dX2_stands_7 (by decide) ?_
    refine lv_goto (tgt := 12) hx hb dX2_stands_8 (by decide) ?_
    exact W.zret (v := 1) hx hb hr rfl (fun t ht hW => ⟨1, rfl, (by simp [zb]; omega), ht⟩) (fun q h => by cases h) dX2_stands_12

set_option maxHeartbeats 4000000 in
set_option maxRecDepth 100000 in
theorem c_X2_yearsKept (l : Launch) (D : va_G) (cI cZ cA : ClassId) (co : Nat) (akd : Nat) (afa : Nat) (ahd : Nat) (K : Nat) (Hn : Nat) (kd : Nat → Int32) (fa : Nat → Int32) (k : Int32) (hd0 : Int32) (hK : K ≤ 5) : Met l yX2_yearsKept wsX2_yearsKept (zr 3) (va_Pc [.ref co, .int k, .int hd0] (zPr D cI cZ cA [(co, .inr (2, [.ref akd, .ref afa, .ref ahd, .int (nI K), .int (nI Hn)])), (akd, .inl (cI, 5, .inl kd)), (afa, .inl (cI, 5, .inl fa))])) (vp_Si (fun r => r = ykAt K kd fa k hd0)) 0 0 (fun _ => False) := by
  refine Met.ofW (cc := cX2_yearsKept) (maxL := 3) (ret := (some .int)) (by decide) rfl ?_
  intro p e s m args below meth c s₁ B hml hv
  obtain ⟨rfl, hP, hE⟩ := hv
  have hx := B.exec
  have hb := B.bytes
  have hr := B.returns
  have hts := atoms_spec (ws := wsX2_yearsKept) B.pre
  have hown : s.vm.findClass RX2 = some m.cls := findClass_of_methodNamed B.named
  have hlocks := B.notSynchronized
  have hP : va_P D vwCl [(co, .inr (2, [.ref akd, .ref afa, .ref ahd, .int (nI K), .int (nI Hn)])), (akd, .inl (cI, 5, .inl kd)), (afa, .inl (cI, 5, .inl fa))] s.heap := hP
  have hl := lv_entry ([.ref co, .int k, .int hd0]) (n := 3) (Nat.le_of_ble_eq_true rfl)
  rw [lg_entry_eq]
  generalize (lg_sl ([.ref co, .int k, .int hd0]) ++ List.replicate (3 - (lg_sl ([.ref co, .int k, .int hd0])).length) Slot.unset).toArray = ls at hl ⊢
  have hl : lv_has ls 3 [(0, .ref co), (1, .int k), (2, .int hd0)] := hl
  have hinX2 : ∀ w ∈ wsX20, w ∈ wsX2_yearsKept := fun w h => List.mem_cons_of_mem _ (List.mem_append_right _ h)
  have k_0 := hts (.fieldLink RX2 9 "VowDoves$Cote" "kinds" "[I") (by decide +kernel)
  have k_1 := hts (.fieldLink RX2 15 "VowDoves$Cote" "faiths" "[I") (by decide +kernel)
  have k_2 := hts (.initialized RX5) (by decide +kernel)
  have k_3 := hts (.static yX5_yearsKeptBy) (by decide +kernel)
  refine lv_aload_n hx hb dX2_yearsKept_0 rfl (lv_at hl 0 rfl) ?_
  refine lv_iload_n hx hb dX2_yearsKept_1 rfl (lv_at hl 1 rfl) ?_
  refine z_roVi (As := [.int k]) (rest := []) ⟨hx, hb, hml, hown, hts⟩ (c_X2_hasKeeper l D cI cZ cA co akd afa ahd K Hn k ) (cwV 1 hts gX2_yearsKept_X2_hasKeeper rfl rfl rfl (by decide +kernel) ⟨Nat.le_of_ble_eq_true rfl, Nat.le_of_ble_eq_true rfl⟩) hE hP [0] rfl 0 2 rfl rfl rfl hl.1 rfl (Nat.le_of_ble_eq_true rfl) dX2_yearsKept_2 ⟨Nat.zero_le _, Nat.zero_le _⟩ ?_
  refine lv_if_eq (tgt := 27) hx hb dX2_yearsKept_5 (by decide) (fun c_5 => ?_) (fun c_5 => ?_)
  · have c_5 := zb_0 c_5
    refine lv_iconst (v := (-1)) hx hb dX2_yearsKept_27 (by decide) ?_
    exact W.iret (v := (-1)) hx hb hr (fun t ht hW => ⟨(-1), rfl, (by rw [ykAt, if_neg c_5]), ht⟩) (fun q h => by cases h) dX2_yearsKept_28
  · have c_5 := zb_1 c_5
    obtain ⟨j, hj, ej⟩ := z_ix c_5 (by omega)
    refine lv_aload_n hx hb dX2_yearsKept_8 rfl (lv_at hl 0 rfl) ?_
    refine va_get (D := D) (ci := 2) (v := .ref akd) (C := RX2) (T := TX2) (N := 5) hx hb hts hinX2 hown hE.1 hP 0 rfl rfl 0 (by decide) k_0 (fun _ h9 => h9) rfl dX2_yearsKept_9 ?_
    refine lv_iload_n hx hb dX2_yearsKept_12 rfl (lv_at hl 1 rfl) ?_
    refine z_iald hx hb hE hP 1 rfl (j := j) ej (by omega) (by decide) dX2_yearsKept_13 ?_
    refine lv_aload_n hx hb dX2_yearsKept_14 rfl (lv_at hl 0 rfl) ?_
    refine va_get (D := D) (ci := 2) (v := .ref afa) (C := RX2) (T := TX2) (N := 5) hx hb hts hinX2 hown hE.1 hP 0 rfl rfl 1 (by decide) k_1 (fun _ h9 => h9) rfl dX2_yearsKept_15 ?_
    refine lv_iload_n hx hb dX2_yearsKept_18 rfl (lv_at hl 1 rfl) ?_
    refine z_iald hx hb hE hP 2 rfl (j := j) ej (by omega) (by decide) dX2_yearsKept_19 ?_
    refine lv_iload_n hx hb dX2_yearsKept_20 rfl (lv_at hl 2 rfl) ?_
    refine z_roNi (As := [.int (kd j), .int (fa j), .int hd0]) (rest := []) ⟨hx, hb, hml, hown, hts⟩ (c_X5_yearsKeptBy l D cI cZ cA (kd j) (fa j) hd0 ) ⟨va_cnB 3 hts ggX2_yearsKept_X5_yearsKeptBy rfl rfl rfl hE.2.2.2.2.2.1 k_2 (by decide +kernel) ⟨Nat.le_of_ble_eq_true rfl, Nat.le_of_ble_eq_true rfl⟩, k_3, trivial⟩ hE hP [] rfl rfl hl.1 rfl (Nat.le_of_ble_eq_true rfl) dX2_yearsKept_21 ⟨Nat.zero_le _, Nat.zero_le _⟩ ?_
    refine lv_goto (tgt := 28) hx hb dX2_yearsKept_24 (by decide) ?_
    exact W.iret (v := (yk (kd j) (fa j) hd0)) hx hb hr (fun t ht hW => ⟨(yk (kd j) (fa j) hd0), rfl, (by rw [ykAt, if_pos c_5, ej, nI_clamp (by omega)]), ht⟩) (fun q h => by cases h) dX2_yearsKept_28

set_option maxHeartbeats 4000000 in
set_option maxRecDepth 100000 in
theorem c_X2_eggsOfAYear (l : Launch) (D : va_G) (cI cZ cA : ClassId) (co : Nat) (akd : Nat) (afa : Nat) (ahd : Nat) (K : Nat) (Hn : Nat) (kd : Nat → Int32) (k : Int32) (hK : K ≤ 5) : Met l yX2_eggsOfAYear wsX2_eggsOfAYear (zr 2) (va_Pc [.ref co, .int k] (zPr D cI cZ cA [(co, .inr (2, [.ref akd, .ref afa, .ref ahd, .int (nI K), .int (nI Hn)])), (akd, .inl (cI, 5, .inl kd))])) (vp_Si (fun r => r = eggY K kd k)) 0 0 (fun _ => False) := by
  refine Met.ofW (cc := cX2_eggsOfAYear) (maxL := 2) (ret := (some .int)) (by decide) rfl ?_
  intro p e s m args below meth c s₁ B hml hv
  obtain ⟨rfl, hP, hE⟩ := hv
  have hx := B.exec
  have hb := B.bytes
  have hr := B.returns
  have hts := atoms_spec (ws := wsX2_eggsOfAYear) B.pre
  have hown : s.vm.findClass RX2 = some m.cls := findClass_of_methodNamed B.named
  have hlocks := B.notSynchronized
  have hP : va_P D vwCl [(co, .inr (2, [.ref akd, .ref afa, .ref ahd, .int (nI K), .int (nI Hn)])), (akd, .inl (cI, 5, .inl kd))] s.heap := hP
  have hl := lv_entry ([.ref co, .int k]) (n := 2) (Nat.le_of_ble_eq_true rfl)
  rw [lg_entry_eq]
  generalize (lg_sl ([.ref co, .int k]) ++ List.replicate (2 - (lg_sl ([.ref co, .int k])).length) Slot.unset).toArray = ls at hl ⊢
  have hl : lv_has ls 2 [(0, .ref co), (1, .int k)] := hl
  have hinX2 : ∀ w ∈ wsX20, w ∈ wsX2_eggsOfAYear := fun w h => List.mem_cons_of_mem _ (List.mem_append_right _ h)
  have k_0 := hts (.fieldLink RX2 9 "VowDoves$Cote" "kinds" "[I") (by decide +kernel)
  have k_1 := hts (.initialized RX5) (by decide +kernel)
  have k_2 := hts (.static yX5_isOfKind) (by decide +kernel)
  refine lv_aload_n hx hb dX2_eggsOfAYear_0 rfl (lv_at hl 0 rfl) ?_
  refine lv_iload_n hx hb dX2_eggsOfAYear_1 rfl (lv_at hl 1 rfl) ?_
  refine z_roVi (As := [.int k]) (rest := []) ⟨hx, hb, hml, hown, hts⟩ (c_X2_hasKeeper l D cI cZ cA co akd afa ahd K Hn k ) (cwV 1 hts gX2_eggsOfAYear_X2_hasKeeper rfl rfl rfl (by decide +kernel) ⟨Nat.le_of_ble_eq_true rfl, Nat.le_of_ble_eq_true rfl⟩) hE hP [0] rfl 0 2 rfl rfl rfl hl.1 rfl (Nat.le_of_ble_eq_true rfl) dX2_eggsOfAYear_2 ⟨Nat.zero_le _, Nat.zero_le _⟩ ?_
  refine lv_if_eq (tgt := 25) hx hb dX2_eggsOfAYear_5 (by decide) (fun c_5 => ?_) (fun c_5 => ?_)
  · have c_5 := zb_0 c_5
    refine lv_iconst (v := 1) hx hb dX2_eggsOfAYear_25 (by decide) ?_
    exact W.iret (v := 1) hx hb hr (fun t ht hW => ⟨1, rfl, (by rw [eggY, if_neg (fun h => c_5 h.1)]), ht⟩) (fun q h => by cases h) dX2_eggsOfAYear_26
  · have c_5 := zb_1 c_5
    obtain ⟨j, hj, ej⟩ := z_ix c_5 (by omega)
    have hcl : k.toNatClampNeg = j := by rw [ej, nI_clamp (by omega)]
    refine lv_aload_n hx hb dX2_eggsOfAYear_8 rfl (lv_at hl 0 rfl) ?_
    refine va_get (D := D) (ci := 2) (v := .ref akd) (C := RX2) (T := TX2) (N := 5) hx hb hts hinX2 hown hE.1 hP 0 rfl rfl 0 (by decide) k_0 (fun _ h9 => h9) rfl dX2_eggsOfAYear_9 ?_
    refine lv_iload_n hx hb dX2_eggsOfAYear_12 rfl (lv_at hl 1 rfl) ?_
    refine z_iald hx hb hE hP 1 rfl (j := j) ej (by omega) (by decide) dX2_eggsOfAYear_13 ?_
    refine lv_iconst (v := 2) hx hb dX2_eggsOfAYear_14 (by decide) ?_
    refine z_roNi (As := [.int (kd j), .int 2]) (rest := []) ⟨hx, hb, hml, hown, hts⟩ (c_X5_isOfKind l D cI cZ cA (kd j) 2 ) ⟨va_cnB 2 hts ggX2_eggsOfAYear_X5_isOfKind rfl rfl rfl hE.2.2.2.2.2.2.1 k_1 (by decide +kernel) ⟨Nat.le_of_ble_eq_true rfl, Nat.le_of_ble_eq_true rfl⟩, k_2, trivial⟩ hE hP [] rfl rfl hl.1 rfl (Nat.le_of_ble_eq_true rfl) dX2_eggsOfAYear_15 ⟨Nat.zero_le _, Nat.zero_le _⟩ ?_
    refine lv_if_eq (tgt := 25) hx hb dX2_eggsOfAYear_18 (by decide) (fun c_18 => ?_) (fun c_18 => ?_)
    · have c_18 := zb_0 c_18
      simp at c_18
      refine lv_iconst (v := 1) hx hb dX2_eggsOfAYear_25 (by decide) ?_
      exact W.iret (v := 1) hx hb hr (fun t ht hW => ⟨1, rfl, (by rw [eggY]; simp [c_5, hcl, c_18]), ht⟩) (fun q h => by cases h) dX2_eggsOfAYear_26
    · have c_18 := zb_1 c_18
      simp at c_18
      refine lv_iconst (v := 0) hx hb dX2_eggsOfAYear_21 (by decide) ?_
      refine lv_goto (tgt := 26) hx hb dX2_eggsOfAYear_22 (by decide) ?_
      exact W.iret (v := 0) hx hb hr (fun t ht hW => ⟨0, rfl, (by rw [eggY]; simp [c_5, hcl, c_18]), ht⟩) (fun q h => by cases h) dX2_eggsOfAYear_26

set_option maxHeartbeats 4000000 in
set_option maxRecDepth 100000 in
theorem c_X0_holesOf (l : Launch) (D : va_G) (cI cZ cA : ClassId) (bk : Nat) (alt : Nat) (abd : Nat) (aeg : Nat) (abr : Nat) (ask : Nat) (ash : Nat) (ast : Nat) (sn : Nat) (yr : Int32) (lt : Nat → Int32) (k : Int32)  : Met l yX0_holesOf wsX0_holesOf (zr 1) (va_Pc [.ref bk, .int k] (zPr D cI cZ cA [(bk, .inr (0, [.ref alt, .ref abd, .ref aeg, .ref abr, .ref ask, .ref ash, .ref ast, .int (nI sn), .int yr])), (alt, .inl (cI, 5, .inl lt))])) (vp_Si (fun r => r = hOfN lt k 5)) 0 0 (fun _ => False) := by
  refine Met.ofW (cc := cX0_holesOf) (maxL := 4) (ret := (some .int)) (by decide) rfl ?_
  intro p e s m args below meth c s₁ B hml hv
  obtain ⟨rfl, hP, hE⟩ := hv
  have hx := B.exec
  have hb := B.bytes
  have hr := B.returns
  have hts := atoms_spec (ws := wsX0_holesOf) B.pre
  have hown : s.vm.findClass RX0 = some m.cls := findClass_of_methodNamed B.named
  have hlocks := B.notSynchronized
  have hP : va_P D vwCl [(bk, .inr (0, [.ref alt, .ref abd, .ref aeg, .ref abr, .ref ask, .ref ash, .ref ast, .int (nI sn), .int yr])), (alt, .inl (cI, 5, .inl lt))] s.heap := hP
  have hl := lv_entry ([.ref bk, .int k]) (n := 4) (Nat.le_of_ble_eq_true rfl)
  rw [lg_entry_eq]
  generalize (lg_sl ([.ref bk, .int k]) ++ List.replicate (4 - (lg_sl ([.ref bk, .int k])).length) Slot.unset).toArray = ls at hl ⊢
  have hl : lv_has ls 4 [(0, .ref bk), (1, .int k)] := hl
  have hinX0 : ∀ w ∈ wsX00, w ∈ wsX0_holesOf := fun w h => List.mem_cons_of_mem _ (List.mem_append_right _ h)
  have k_0 := hts (.fieldLink RX0 9 "VowDoves$Book" "letTo" "[I") (by decide +kernel)
  refine lv_iconst (v := 0) hx hb dX0_holesOf_0 (by decide) ?_
  refine lv_istore_n (lv' := [(2, .int 0), (0, .ref bk), (1, .int k)]) hx hb dX0_holesOf_1 rfl hl (by decide) rfl (fun ls hl => ?_)
  refine lv_iconst (v := 0) hx hb dX0_holesOf_2 (by decide) ?_
  refine lv_istore_n (lv' := [(3, .int 0), (2, .int 0), (0, .ref bk), (1, .int k)]) hx hb dX0_holesOf_3 rfl hl (by decide) rfl (fun ls hl => ?_)
  have hc4_1 : ∀ (n : Nat) (i : Nat), (i ≤ 5) → (5 + 1 ≤ i + n) → ∀ (w2 : Int32), w2 = hOfN lt k i → ∀ (w3 : Int32), w3 = nI i → ∀ (ls : Array Slot), lv_has ls 4 [(3, .int w3), (2, .int w2), (0, .ref bk), (1, .int k)] → W p l e (headSpec wsX0_holesOf (zr 1)).room s m ([.ref bk, .int k] : List Value).toArray below meth c s.heap [] 0 0 (MQ below (vp_Si (fun r => r = hOfN lt k 5)) ([.ref bk, .int k] : List Value).toArray s 0 0 (fun _ => False)) (F0 m 4 ls []) := by
    intro n
    induction n with
    | zero => intro i hi hfu; exact absurd hfu (by omega)
    | succ n ihhc4_1 =>
      intro i hi hfu w2 ew2 w3 ew3 ls hl
      subst ew2
      subst ew3
      refine lv_iload_n hx hb dX0_holesOf_4 rfl (lv_at hl 0 rfl) ?_
      refine lv_iconst (v := 5) hx hb dX0_holesOf_5 (by decide) ?_
      refine lv_icmp_ge (tgt := 31) hx hb dX0_holesOf_6 (by decide) (fun c_6 => ?_) (fun c_6 => ?_)
      · have n_6 := zn_le (a := 5) (b := i) rfl rfl c_6 (by omega) (by omega)
        obtain rfl : i = 5 := by omega
        refine lv_iload_n hx hb dX0_holesOf_31 rfl (lv_at hl 1 rfl) ?_
        exact W.iret (v := hOfN lt k 5) hx hb hr (fun t ht hW => ⟨(hOfN lt k 5), rfl, rfl, ht⟩) (fun q h => by cases h) dX0_holesOf_32
      · have n_6 := zn_nle (a := 5) (b := i) rfl rfl c_6 (by omega) (by omega)
        refine lv_aload_n hx hb dX0_holesOf_9 rfl (lv_at hl 2 rfl) ?_
        refine va_get (D := D) (ci := 0) (v := .ref alt) (C := RX0) (T := TX0) (N := 9) hx hb hts hinX0 hown hE.1 hP 0 rfl rfl 0 (by decide) k_0 (fun _ h9 => h9) rfl dX0_holesOf_10 ?_
        refine lv_iload_n hx hb dX0_holesOf_13 rfl (lv_at hl 0 rfl) ?_
        refine z_iald hx hb hE hP 1 rfl (j := i) rfl (by omega) (by decide) dX0_holesOf_14 ?_
        refine lv_iload_n hx hb dX0_holesOf_15 rfl (lv_at hl 3 rfl) ?_
        refine lv_icmp_ne (tgt := 25) hx hb dX0_holesOf_16 (by decide) (fun c_16 => ?_) (fun c_16 => ?_)
        · refine lv_iinc (v := nI (i + 1)) (lv' := [(3, .int (nI (i + 1))), (2, .int (hOfN lt k i)), (0, .ref bk), (1, .int k)]) hx hb dX0_holesOf_25 hl (k := 0) rfl (nI_add i 1) (by decide) rfl (fun ls hl => ?_)
          refine lv_goto (tgt := 4) hx hb dX0_holesOf_28 (by decide) ?_
          exact ihhc4_1 (i + 1) (by omega) (by omega) (hOfN lt k i) (by simp [hOfN, c_16]) (nI (i + 1)) rfl ls (lv_sub hl [0, 1, 2, 3] rfl)
        · refine lv_iload_n hx hb dX0_holesOf_19 rfl (lv_at hl 1 rfl) ?_
          refine lv_iconst (v := 1) hx hb dX0_holesOf_20 (by decide) ?_
          refine lv_iload_n hx hb dX0_holesOf_21 rfl (lv_at hl 0 rfl) ?_
          refine lv_ishl hx hb dX0_holesOf_22 ?_
          refine lv_ior hx hb dX0_holesOf_23 ?_
          refine lv_istore_n (lv' := [(2, .int ((hOfN lt k i) ||| (1 <<< ((nI i) &&& 31)))), (3, .int (nI i)), (0, .ref bk), (1, .int k)]) hx hb dX0_holesOf_24 rfl hl (by decide) rfl (fun ls hl => ?_)
          refine lv_iinc (v := nI (i + 1)) (lv' := [(3, .int (nI (i + 1))), (2, .int ((hOfN lt k i) ||| (1 <<< ((nI i) &&& 31)))), (0, .ref bk), (1, .int k)]) hx hb dX0_holesOf_25 hl (k := 1) rfl (nI_add i 1) (by decide) rfl (fun ls hl => ?_)
          refine lv_goto (tgt := 4) hx hb dX0_holesOf_28 (by decide) ?_
          exact ihhc4_1 (i + 1) (by omega) (by omega) ((hOfN lt k i) ||| (1 <<< ((nI i) &&& 31))) (by simp [hOfN, c_16]) (nI (i + 1)) rfl ls (lv_sub hl [0, 1, 2, 3] rfl)
  exact hc4_1 (5 + 1) 0 (by omega) (by omega) 0 rfl 0 rfl ls (lv_sub hl [0, 1, 2, 3] rfl)

set_option maxHeartbeats 4000000 in
set_option maxRecDepth 100000 in
theorem c_X0_eggsOf (l : Launch) (D : va_G) (cI cZ cA : ClassId) (bk : Nat) (alt : Nat) (abd : Nat) (aeg : Nat) (abr : Nat) (ask : Nat) (ash : Nat) (ast : Nat) (sn : Nat) (yr : Int32) (lt : Nat → Int32) (eg : Nat → Int32) (k : Int32)  : Met l yX0_eggsOf wsX0_eggsOf (zr 1) (va_Pc [.ref bk, .int k] (zPr D cI cZ cA [(bk, .inr (0, [.ref alt, .ref abd, .ref aeg, .ref abr, .ref ask, .ref ash, .ref ast, .int (nI sn), .int yr])), (alt, .inl (cI, 5, .inl lt)), (aeg, .inl (cI, 5, .inl eg))])) (vp_Si (fun r => r = eOfN lt eg k 5)) 0 0 (fun _ => False) := by
  refine Met.ofW (cc := cX0_eggsOf) (maxL := 4) (ret := (some .int)) (by decide) rfl ?_
  intro p e s m args below meth c s₁ B hml hv
  obtain ⟨rfl, hP, hE⟩ := hv
  have hx := B.exec
  have hb := B.bytes
  have hr := B.returns
  have hts := atoms_spec (ws := wsX0_eggsOf) B.pre
  have hown : s.vm.findClass RX0 = some m.cls := findClass_of_methodNamed B.named
  have hlocks := B.notSynchronized
  have hP : va_P D vwCl [(bk, .inr (0, [.ref alt, .ref abd, .ref aeg, .ref abr, .ref ask, .ref ash, .ref ast, .int (nI sn), .int yr])), (alt, .inl (cI, 5, .inl lt)), (aeg, .inl (cI, 5, .inl eg))] s.heap := hP
  have hl := lv_entry ([.ref bk, .int k]) (n := 4) (Nat.le_of_ble_eq_true rfl)
  rw [lg_entry_eq]
  generalize (lg_sl ([.ref bk, .int k]) ++ List.replicate (4 - (lg_sl ([.ref bk, .int k])).length) Slot.unset).toArray = ls at hl ⊢
  have hl : lv_has ls 4 [(0, .ref bk), (1, .int k)] := hl
  have hinX0 : ∀ w ∈ wsX00, w ∈ wsX0_eggsOf := fun w h => List.mem_cons_of_mem _ (List.mem_append_right _ h)
  have k_0 := hts (.fieldLink RX0 9 "VowDoves$Book" "letTo" "[I") (by decide +kernel)
  have k_1 := hts (.fieldLink RX0 18 "VowDoves$Book" "eggs" "[I") (by decide +kernel)
  refine lv_iconst (v := 0) hx hb dX0_eggsOf_0 (by decide) ?_
  refine lv_istore_n (lv' := [(2, .int 0), (0, .ref bk), (1, .int k)]) hx hb dX0_eggsOf_1 rfl hl (by decide) rfl (fun ls hl => ?_)
  refine lv_iconst (v := 0) hx hb dX0_eggsOf_2 (by decide) ?_
  refine lv_istore_n (lv' := [(3, .int 0), (2, .int 0), (0, .ref bk), (1, .int k)]) hx hb dX0_eggsOf_3 rfl hl (by decide) rfl (fun ls hl => ?_)
  have hc4_1 : ∀ (n : Nat) (i : Nat), (i ≤ 5) → (5 + 1 ≤ i + n) → ∀ (w2 : Int32), w2 = eOfN lt eg k i → ∀ (w3 : Int32), w3 = nI i → ∀ (ls : Array Slot), lv_has ls 4 [(3, .int w3), (2, .int w2), (0, .ref bk), (1, .int k)] → W p l e (headSpec wsX0_eggsOf (zr 1)).room s m ([.ref bk, .int k] : List Value).toArray below meth c s.heap [] 0 0 (MQ below (vp_Si (fun r => r = eOfN lt eg k 5)) ([.ref bk, .int k] : List Value).toArray s 0 0 (fun _ => False)) (F0 m 4 ls []) := by
    intro n
    induction n with
    | zero => intro i hi hfu; exact absurd hfu (by omega)
    | succ n ihhc4_1 =>
      intro i hi hfu w2 ew2 w3 ew3 ls hl
      subst ew2
      subst ew3
      refine lv_iload_n hx hb dX0_eggsOf_4 rfl (lv_at hl 0 rfl) ?_
      refine lv_iconst (v := 5) hx hb dX0_eggsOf_5 (by decide) ?_
      refine lv_icmp_ge (tgt := 34) hx hb dX0_eggsOf_6 (by decide) (fun c_6 => ?_) (fun c_6 => ?_)
      · have n_6 := zn_le (a := 5) (b := i) rfl rfl c_6 (by omega) (by omega)
        obtain rfl : i = 5 := by omega
        refine lv_iload_n hx hb dX0_eggsOf_34 rfl (lv_at hl 1 rfl) ?_
        exact W.iret (v := eOfN lt eg k 5) hx hb hr (fun t ht hW => ⟨(eOfN lt eg k 5), rfl, rfl, ht⟩) (fun q h => by cases h) dX0_eggsOf_35
      · have n_6 := zn_nle (a := 5) (b := i) rfl rfl c_6 (by omega) (by omega)
        refine lv_aload_n hx hb dX0_eggsOf_9 rfl (lv_at hl 2 rfl) ?_
        refine va_get (D := D) (ci := 0) (v := .ref alt) (C := RX0) (T := TX0) (N := 9) hx hb hts hinX0 hown hE.1 hP 0 rfl rfl 0 (by decide) k_0 (fun _ h9 => h9) rfl dX0_eggsOf_10 ?_
        refine lv_iload_n hx hb dX0_eggsOf_13 rfl (lv_at hl 0 rfl) ?_
        refine z_iald hx hb hE hP 1 rfl (j := i) rfl (by omega) (by decide) dX0_eggsOf_14 ?_
        refine lv_iload_n hx hb dX0_eggsOf_15 rfl (lv_at hl 3 rfl) ?_
        refine lv_icmp_ne (tgt := 28) hx hb dX0_eggsOf_16 (by decide) (fun c_16 => ?_) (fun c_16 => ?_)
        · refine lv_iinc (v := nI (i + 1)) (lv' := [(3, .int (nI (i + 1))), (2, .int (eOfN lt eg k i)), (0, .ref bk), (1, .int k)]) hx hb dX0_eggsOf_28 hl (k := 0) rfl (nI_add i 1) (by decide) rfl (fun ls hl => ?_)
          refine lv_goto (tgt := 4) hx hb dX0_eggsOf_31 (by decide) ?_
          exact ihhc4_1 (i + 1) (by omega) (by omega) (eOfN lt eg k i) (by simp [eOfN, c_16]) (nI (i + 1)) rfl ls (lv_sub hl [0, 1, 2, 3] rfl)
        · refine lv_iload_n hx hb dX0_eggsOf_19 rfl (lv_at hl 1 rfl) ?_
          refine lv_aload_n hx hb dX0_eggsOf_20 rfl (lv_at hl 2 rfl) ?_
          refine va_get (D := D) (ci := 0) (v := .ref aeg) (C := RX0) (T := TX0) (N := 9) hx hb hts hinX0 hown hE.1 hP 0 rfl rfl 2 (by decide) k_1 (fun _ h9 => h9) rfl dX0_eggsOf_21 ?_
          refine lv_iload_n hx hb dX0_eggsOf_24 rfl (lv_at hl 0 rfl) ?_
          refine z_iald hx hb hE hP 2 rfl (j := i) rfl (by omega) (by decide) dX0_eggsOf_25 ?_
          refine lv_iadd hx hb dX0_eggsOf_26 ?_
          refine lv_istore_n (lv' := [(2, .int ((eOfN lt eg k i) + (eg i))), (3, .int (nI i)), (0, .ref bk), (1, .int k)]) hx hb dX0_eggsOf_27 rfl hl (by decide) rfl (fun ls hl => ?_)
          refine lv_iinc (v := nI (i + 1)) (lv' := [(3, .int (nI (i + 1))), (2, .int ((eOfN lt eg k i) + (eg i))), (0, .ref bk), (1, .int k)]) hx hb dX0_eggsOf_28 hl (k := 1) rfl (nI_add i 1) (by decide) rfl (fun ls hl => ?_)
          refine lv_goto (tgt := 4) hx hb dX0_eggsOf_31 (by decide) ?_
          exact ihhc4_1 (i + 1) (by omega) (by omega) ((eOfN lt eg k i) + (eg i)) (by simp [eOfN, c_16]) (nI (i + 1)) rfl ls (lv_sub hl [0, 1, 2, 3] rfl)
  exact hc4_1 (5 + 1) 0 (by omega) (by omega) 0 rfl 0 rfl ls (lv_sub hl [0, 1, 2, 3] rfl)

set_option maxHeartbeats 4000000 in
set_option maxRecDepth 100000 in
theorem c_X0_holesWith (l : Launch) (D : va_G) (cI cZ cA : ClassId) (bk : Nat) (alt : Nat) (abd : Nat) (aeg : Nat) (abr : Nat) (ask : Nat) (ash : Nat) (ast : Nat) (sn : Nat) (yr : Int32) (bd : Nat → Int32) (b : Int32)  : Met l yX0_holesWith wsX0_holesWith (zr 1) (va_Pc [.ref bk, .int b] (zPr D cI cZ cA [(bk, .inr (0, [.ref alt, .ref abd, .ref aeg, .ref abr, .ref ask, .ref ash, .ref ast, .int (nI sn), .int yr])), (abd, .inl (cI, 5, .inl bd))])) (vp_Si (fun r => r = cntN bd b 5)) 0 0 (fun _ => False) := by
  refine Met.ofW (cc := cX0_holesWith) (maxL := 7) (ret := (some .int)) (by decide) rfl ?_
  intro p e s m args below meth c s₁ B hml hv
  obtain ⟨rfl, hP, hE⟩ := hv
  have hx := B.exec
  have hb := B.bytes
  have hr := B.returns
  have hts := atoms_spec (ws := wsX0_holesWith) B.pre
  have hown : s.vm.findClass RX0 = some m.cls := findClass_of_methodNamed B.named
  have hlocks := B.notSynchronized
  have hP : va_P D vwCl [(bk, .inr (0, [.ref alt, .ref abd, .ref aeg, .ref abr, .ref ask, .ref ash, .ref ast, .int (nI sn), .int yr])), (abd, .inl (cI, 5, .inl bd))] s.heap := hP
  have hl := lv_entry ([.ref bk, .int b]) (n := 7) (Nat.le_of_ble_eq_true rfl)
  rw [lg_entry_eq]
  generalize (lg_sl ([.ref bk, .int b]) ++ List.replicate (7 - (lg_sl ([.ref bk, .int b])).length) Slot.unset).toArray = ls at hl ⊢
  have hl : lv_has ls 7 [(0, .ref bk), (1, .int b)] := hl
  have hinX0 : ∀ w ∈ wsX00, w ∈ wsX0_holesWith := fun w h => List.mem_cons_of_mem _ (List.mem_append_right _ h)
  have k_0 := hts (.fieldLink RX0 15 "VowDoves$Book" "birds" "[I") (by decide +kernel)
  refine lv_iconst (v := 0) hx hb dX0_holesWith_0 (by decide) ?_
  refine lv_istore_n (lv' := [(2, .int 0), (0, .ref bk), (1, .int b)]) hx hb dX0_holesWith_1 rfl hl (by decide) rfl (fun ls hl => ?_)
  refine lv_aload_n hx hb dX0_holesWith_2 rfl (lv_at hl 1 rfl) ?_
  refine va_get (D := D) (ci := 0) (v := .ref abd) (C := RX0) (T := TX0) (N := 9) hx hb hts hinX0 hown hE.1 hP 0 rfl rfl 1 (by decide) k_0 (fun _ h9 => h9) rfl dX0_holesWith_3 ?_
  refine lv_astore_n (lv' := [(3, .ref abd), (2, .int 0), (0, .ref bk), (1, .int b)]) hx hb dX0_holesWith_6 rfl hl (by decide) rfl (fun ls hl => ?_)
  refine lv_aload_n hx hb dX0_holesWith_7 rfl (lv_at hl 0 rfl) ?_
  refine z_alen hx hb hE hP 1 rfl dX0_holesWith_8 ?_
  refine lv_istore (lv' := [(4, .int (nI 5)), (3, .ref abd), (2, .int 0), (0, .ref bk), (1, .int b)]) hx hb dX0_holesWith_9 hl (by decide) rfl (fun ls hl => ?_)
  refine lv_iconst (v := 0) hx hb dX0_holesWith_11 (by decide) ?_
  refine lv_istore (lv' := [(5, .int 0), (4, .int (nI 5)), (3, .ref abd), (2, .int 0), (0, .ref bk), (1, .int b)]) hx hb dX0_holesWith_12 hl (by decide) rfl (fun ls hl => ?_)
  have hc14_1 : ∀ (n : Nat) (i : Nat), (i ≤ 5) → (5 + 1 ≤ i + n) → ∀ (w2 : Int32), w2 = cntN bd b i → ∀ (w5 : Int32), w5 = nI i → ∀ (ls : Array Slot), lv_has ls 7 [(5, .int w5), (4, .int (nI 5)), (3, .ref abd), (2, .int w2), (0, .ref bk), (1, .int b)] → W p l e (headSpec wsX0_holesWith (zr 1)).room s m ([.ref bk, .int b] : List Value).toArray below meth c s.heap [] 0 0 (MQ below (vp_Si (fun r => r = cntN bd b 5)) ([.ref bk, .int b] : List Value).toArray s 0 0 (fun _ => False)) (F0 m 14 ls []) := by
    intro n
    induction n with
    | zero => intro i hi hfu; exact absurd hfu (by omega)
    | succ n ihhc14_1 =>
      intro i hi hfu w2 ew2 w5 ew5 ls hl
      subst ew2
      subst ew5
      refine lv_iload hx hb dX0_holesWith_14 (lv_at hl 0 rfl) ?_
      refine lv_iload hx hb dX0_holesWith_16 (lv_at hl 1 rfl) ?_
      refine lv_icmp_ge (tgt := 42) hx hb dX0_holesWith_18 (by decide) (fun c_18 => ?_) (fun c_18 => ?_)
      · have n_18 := zn_le (a := 5) (b := i) rfl rfl c_18 (by omega) (by omega)
        obtain rfl : i = 5 := by omega
        refine lv_iload_n hx hb dX0_holesWith_42 rfl (lv_at hl 3 rfl) ?_
        exact W.iret (v := cntN bd b 5) hx hb hr (fun t ht hW => ⟨(cntN bd b 5), rfl, rfl, ht⟩) (fun q h => by cases h) dX0_holesWith_43
      · have n_18 := zn_nle (a := 5) (b := i) rfl rfl c_18 (by omega) (by omega)
        refine lv_aload_n hx hb dX0_holesWith_21 rfl (lv_at hl 2 rfl) ?_
        refine lv_iload hx hb dX0_holesWith_22 (lv_at hl 0 rfl) ?_
        refine z_iald hx hb hE hP 1 rfl (j := i) rfl (by omega) (by decide) dX0_holesWith_24 ?_
        refine lv_istore (lv' := [(6, .int (bd i)), (5, .int (nI i)), (4, .int (nI 5)), (3, .ref abd), (2, .int (cntN bd b i)), (0, .ref bk), (1, .int b)]) hx hb dX0_holesWith_25 hl (by decide) rfl (fun ls hl => ?_)
        refine lv_iload hx hb dX0_holesWith_27 (lv_at hl 0 rfl) ?_
        refine lv_iload_n hx hb dX0_holesWith_29 rfl (lv_at hl 6 rfl) ?_
        refine lv_icmp_ne (tgt := 36) hx hb dX0_holesWith_30 (by decide) (fun c_30 => ?_) (fun c_30 => ?_)
        · refine lv_iinc (v := nI (i + 1)) (lv' := [(5, .int (nI (i + 1))), (6, .int (bd i)), (4, .int (nI 5)), (3, .ref abd), (2, .int (cntN bd b i)), (0, .ref bk), (1, .int b)]) hx hb dX0_holesWith_36 hl (k := 1) rfl (nI_add i 1) (by decide) rfl (fun ls hl => ?_)
          refine lv_goto (tgt := 14) hx hb dX0_holesWith_39 (by decide) ?_
          exact ihhc14_1 (i + 1) (by omega) (by omega) (cntN bd b i) (by simp [cntN, c_30]) (nI (i + 1)) rfl ls (lv_sub hl [0, 2, 3, 4, 5, 6] rfl)
        · refine lv_iinc (v := (cntN bd b i) + 1) (lv' := [(2, .int ((cntN bd b i) + 1)), (6, .int (bd i)), (5, .int (nI i)), (4, .int (nI 5)), (3, .ref abd), (0, .ref bk), (1, .int b)]) hx hb dX0_holesWith_33 hl (k := 4) rfl rfl (by decide) rfl (fun ls hl => ?_)
          refine lv_iinc (v := nI (i + 1)) (lv' := [(5, .int (nI (i + 1))), (2, .int ((cntN bd b i) + 1)), (6, .int (bd i)), (4, .int (nI 5)), (3, .ref abd), (0, .ref bk), (1, .int b)]) hx hb dX0_holesWith_36 hl (k := 2) rfl (nI_add i 1) (by decide) rfl (fun ls hl => ?_)
          refine lv_goto (tgt := 14) hx hb dX0_holesWith_39 (by decide) ?_
          exact ihhc14_1 (i + 1) (by omega) (by omega) ((cntN bd b i) + 1) (by simp [cntN, c_30]) (nI (i + 1)) rfl ls (lv_sub hl [0, 3, 4, 1, 5, 6] rfl)
  exact hc14_1 (5 + 1) 0 (by omega) (by omega) 0 rfl 0 rfl ls (lv_sub hl [0, 1, 2, 3, 4, 5] rfl)

set_option maxHeartbeats 4000000 in
set_option maxRecDepth 100000 in
theorem c_X0_roomOf (l : Launch) (D : va_G) (cI cZ cA : ClassId) (bk : Nat) (alt : Nat) (abd : Nat) (aeg : Nat) (abr : Nat) (ask : Nat) (ash : Nat) (ast : Nat) (sn : Nat) (yr : Int32) (lt : Nat → Int32) (k : Int32)  : Met l yX0_roomOf wsX0_roomOf (zr 2) (va_Pc [.ref bk, .int k] (zPr D cI cZ cA [(bk, .inr (0, [.ref alt, .ref abd, .ref aeg, .ref abr, .ref ask, .ref ash, .ref ast, .int (nI sn), .int yr])), (alt, .inl (cI, 5, .inl lt))])) (vp_Si (fun r => r = 2 - bitc (hOfN lt k 5))) 0 0 (fun _ => False) := by
  refine Met.ofW (cc := cX0_roomOf) (maxL := 2) (ret := (some .int)) (by decide) rfl ?_
  intro p e s m args below meth c s₁ B hml hv
  obtain ⟨rfl, hP, hE⟩ := hv
  have hx := B.exec
  have hb := B.bytes
  have hr := B.returns
  have hts := atoms_spec (ws := wsX0_roomOf) B.pre
  have hown : s.vm.findClass RX0 = some m.cls := findClass_of_methodNamed B.named
  have hlocks := B.notSynchronized
  have hP : va_P D vwCl [(bk, .inr (0, [.ref alt, .ref abd, .ref aeg, .ref abr, .ref ask, .ref ash, .ref ast, .int (nI sn), .int yr])), (alt, .inl (cI, 5, .inl lt))] s.heap := hP
  have hl := lv_entry ([.ref bk, .int k]) (n := 2) (Nat.le_of_ble_eq_true rfl)
  rw [lg_entry_eq]
  generalize (lg_sl ([.ref bk, .int k]) ++ List.replicate (2 - (lg_sl ([.ref bk, .int k])).length) Slot.unset).toArray = ls at hl ⊢
  have hl : lv_has ls 2 [(0, .ref bk), (1, .int k)] := hl
  refine lv_iconst (v := 2) hx hb dX0_roomOf_0 (by decide) ?_
  refine lv_aload_n hx hb dX0_roomOf_1 rfl (lv_at hl 0 rfl) ?_
  refine lv_iload_n hx hb dX0_roomOf_2 rfl (lv_at hl 1 rfl) ?_
  refine z_roVi (As := [.int k]) (rest := [.int 2]) ⟨hx, hb, hml, hown, hts⟩ (c_X0_holesOf l D cI cZ cA bk alt abd aeg abr ask ash ast sn yr lt k ) (cwV 1 hts gX0_roomOf_X0_holesOf rfl rfl rfl (by decide +kernel) ⟨Nat.le_of_ble_eq_true rfl, Nat.le_of_ble_eq_true rfl⟩) hE hP [0, 1] rfl 0 0 rfl rfl rfl hl.1 rfl (Nat.le_of_ble_eq_true rfl) dX0_roomOf_3 ⟨Nat.zero_le _, Nat.zero_le _⟩ ?_
  refine z_roSi (As := [.int (hOfN lt k 5)]) (rest := [.int 2]) ⟨hx, hb, hml, hown, hts⟩ (c_J6_bitCount_0f7a4 l D cI cZ cA (hOfN lt k 5) ) (va_cwS 1 hts gX0_roomOf_J6_bitCount_0f7a4 rfl rfl rfl (by decide +kernel) ⟨Nat.le_of_ble_eq_true rfl, Nat.le_of_ble_eq_true rfl⟩) hE hP [] rfl rfl hl.1 rfl (Nat.le_of_ble_eq_true rfl) dX0_roomOf_6 ⟨Nat.zero_le _, Nat.zero_le _⟩ ?_
  refine lv_isub hx hb dX0_roomOf_9 ?_
  exact W.iret (v := 2 - (bitc (hOfN lt k 5))) hx hb hr (fun t ht hW => ⟨(2 - (bitc (hOfN lt k 5))), rfl, rfl, ht⟩) (fun q h => by cases h) dX0_roomOf_10

set_option maxHeartbeats 4000000 in
set_option maxRecDepth 100000 in
theorem c_X0_empty (l : Launch) (D : va_G) (cI cZ cA : ClassId) (sz : Nat) (bk : Nat) (alt : Nat) (abd : Nat) (aeg : Nat) (abr : Nat) (ask : Nat) (ash : Nat) (ast : Nat) (sn : Nat) (yr : Int32) (lt : Nat → Int32) (bd : Nat → Int32) (eg : Nat → Int32) (h : Nat) (b : Int32) (hh : h < 5) : Met l yX0_empty wsX0_empty (zr 1) (va_Pc [.ref bk, .int (nI h), .int b] (zPw D cI cZ cA [(bk, .inr (0, [.ref alt, .ref abd, .ref aeg, .ref abr, .ref ask, .ref ash, .ref ast, .int (nI sn), .int yr])), (alt, .inl (cI, 5, .inl lt)), (abd, .inl (cI, 5, .inl bd)), (aeg, .inl (cI, 5, .inl eg))] sz)) (va_Qv (fun (_ : Unit) => True) (zB D [(bk, .inr (0, [.ref alt, .ref abd, .ref aeg, .ref abr, .ref ask, .ref ash, .ref ast, .int (nI sn), .int yr])), (alt, .inl (cI, 5, .inl (upd lt h (-1)))), (abd, .inl (cI, 5, .inl (upd bd h b))), (aeg, .inl (cI, 5, .inl (upd eg h 0)))] (va_A [(bk, .inr (0, [.ref alt, .ref abd, .ref aeg, .ref abr, .ref ask, .ref ash, .ref ast, .int (nI sn), .int yr])), (alt, .inl (cI, 5, .inl lt)), (abd, .inl (cI, 5, .inl bd)), (aeg, .inl (cI, 5, .inl eg))] sz)) (va_A [(bk, .inr (0, [.ref alt, .ref abd, .ref aeg, .ref abr, .ref ask, .ref ash, .ref ast, .int (nI sn), .int yr])), (alt, .inl (cI, 5, .inl lt)), (abd, .inl (cI, 5, .inl bd)), (aeg, .inl (cI, 5, .inl eg))] sz)) 0 0 (va_A [(bk, .inr (0, [.ref alt, .ref abd, .ref aeg, .ref abr, .ref ask, .ref ash, .ref ast, .int (nI sn), .int yr])), (alt, .inl (cI, 5, .inl lt)), (abd, .inl (cI, 5, .inl bd)), (aeg, .inl (cI, 5, .inl eg))] sz) := by
  refine Met.ofW (cc := cX0_empty) (maxL := 3) (ret := none) (by decide) rfl ?_
  intro p e s m args below meth c s₁ B hml hv
  obtain ⟨rfl, hsz, hP, hD0, hE⟩ := hv
  have hx := B.exec
  have hb := B.bytes
  have hr := B.returns
  have hts := atoms_spec (ws := wsX0_empty) B.pre
  have hown : s.vm.findClass RX0 = some m.cls := findClass_of_methodNamed B.named
  have hlocks := B.notSynchronized
  subst hsz
  have hD := hD0.self (sz := s.heap.size)
  generalize hAe : va_A [(bk, .inr (0, [.ref alt, .ref abd, .ref aeg, .ref abr, .ref ask, .ref ash, .ref ast, .int (nI sn), .int yr])), (alt, .inl (cI, 5, .inl lt)), (abd, .inl (cI, 5, .inl bd)), (aeg, .inl (cI, 5, .inl eg))] s.heap.size = A at hD ⊢
  have hA : ∀ q : Nat, s.heap.size ≤ q → A q := fun q h => by rw [← hAe]; exact Or.inr h
  have hS : va_S A s.heap s.heap [] := va_S.rf
  have hP : va_P D vwCl [(bk, .inr (0, [.ref alt, .ref abd, .ref aeg, .ref abr, .ref ask, .ref ash, .ref ast, .int (nI sn), .int yr])), (alt, .inl (cI, 5, .inl lt)), (abd, .inl (cI, 5, .inl bd)), (aeg, .inl (cI, 5, .inl eg))] s.heap := hP
  have hD : va_D A [(bk, .inr (0, [.ref alt, .ref abd, .ref aeg, .ref abr, .ref ask, .ref ash, .ref ast, .int (nI sn), .int yr])), (alt, .inl (cI, 5, .inl lt)), (abd, .inl (cI, 5, .inl bd)), (aeg, .inl (cI, 5, .inl eg))] := hD
  have hl := lv_entry ([.ref bk, .int (nI h), .int b]) (n := 3) (Nat.le_of_ble_eq_true rfl)
  rw [lg_entry_eq]
  generalize (lg_sl ([.ref bk, .int (nI h), .int b]) ++ List.replicate (3 - (lg_sl ([.ref bk, .int (nI h), .int b])).length) Slot.unset).toArray = ls at hl ⊢
  have hl : lv_has ls 3 [(0, .ref bk), (1, .int (nI h)), (2, .int b)] := hl
  have hinX0 : ∀ w ∈ wsX00, w ∈ wsX0_empty := fun w h => List.mem_cons_of_mem _ (List.mem_append_right _ h)
  have k_0 := hts (.fieldLink RX0 9 "VowDoves$Book" "letTo" "[I") (by decide +kernel)
  have k_1 := hts (.fieldLink RX0 15 "VowDoves$Book" "birds" "[I") (by decide +kernel)
  have k_2 := hts (.fieldLink RX0 18 "VowDoves$Book" "eggs" "[I") (by decide +kernel)
  refine lv_aload_n hx hb dX0_empty_0 rfl (lv_at hl 0 rfl) ?_
  refine va_get (D := D) (ci := 0) (v := .ref alt) (C := RX0) (T := TX0) (N := 9) hx hb hts hinX0 hown hE.1 hP 0 rfl rfl 0 (by decide) k_0 (fun _ h9 => h9) rfl dX0_empty_1 ?_
  refine lv_iload_n hx hb dX0_empty_4 rfl (lv_at hl 1 rfl) ?_
  refine lv_iconst (v := (-1)) hx hb dX0_empty_5 (by decide) ?_
  refine z_iast hx hb hE hP hD hS 1 rfl (j := h) rfl (by omega) (by decide) dX0_empty_6 (fun H locs hP hD hS => ?_)
  have hP : va_P D vwCl [(bk, .inr (0, [.ref alt, .ref abd, .ref aeg, .ref abr, .ref ask, .ref ash, .ref ast, .int (nI sn), .int yr])), (alt, .inl (cI, 5, .inl (upd lt h (-1)))), (abd, .inl (cI, 5, .inl bd)), (aeg, .inl (cI, 5, .inl eg))] H := hP
  have hD : va_D A [(bk, .inr (0, [.ref alt, .ref abd, .ref aeg, .ref abr, .ref ask, .ref ash, .ref ast, .int (nI sn), .int yr])), (alt, .inl (cI, 5, .inl (upd lt h (-1)))), (abd, .inl (cI, 5, .inl bd)), (aeg, .inl (cI, 5, .inl eg))] := hD
  refine lv_aload_n hx hb dX0_empty_7 rfl (lv_at hl 0 rfl) ?_
  refine va_get (D := D) (ci := 0) (v := .ref abd) (C := RX0) (T := TX0) (N := 9) hx hb hts hinX0 hown hE.1 hP 0 rfl rfl 1 (by decide) k_1 (fun _ h9 => h9) rfl dX0_empty_8 ?_
  refine lv_iload_n hx hb dX0_empty_11 rfl (lv_at hl 1 rfl) ?_
  refine lv_iload_n hx hb dX0_empty_12 rfl (lv_at hl 2 rfl) ?_
  refine z_iast hx hb hE hP hD hS 2 rfl (j := h) rfl (by omega) (by decide) dX0_empty_13 (fun H locs hP hD hS => ?_)
  have hP : va_P D vwCl [(bk, .inr (0, [.ref alt, .ref abd, .ref aeg, .ref abr, .ref ask, .ref ash, .ref ast, .int (nI sn), .int yr])), (alt, .inl (cI, 5, .inl (upd lt h (-1)))), (abd, .inl (cI, 5, .inl (upd bd h b))), (aeg, .inl (cI, 5, .inl eg))] H := hP
  have hD : va_D A [(bk, .inr (0, [.ref alt, .ref abd, .ref aeg, .ref abr, .ref ask, .ref ash, .ref ast, .int (nI sn), .int yr])), (alt, .inl (cI, 5, .inl (upd lt h (-1)))), (abd, .inl (cI, 5, .inl (upd bd h b))), (aeg, .inl (cI, 5, .inl eg))] := hD
  refine lv_aload_n hx hb dX0_empty_14 rfl (lv_at hl 0 rfl) ?_
  refine va_get (D := D) (ci := 0) (v := .ref aeg) (C := RX0) (T := TX0) (N := 9) hx hb hts hinX0 hown hE.1 hP 0 rfl rfl 2 (by decide) k_2 (fun _ h9 => h9) rfl dX0_empty_15 ?_
  refine lv_iload_n hx hb dX0_empty_18 rfl (lv_at hl 1 rfl) ?_
  refine lv_iconst (v := 0) hx hb dX0_empty_19 (by decide) ?_
  refine z_iast hx hb hE hP hD hS 3 rfl (j := h) rfl (by omega) (by decide) dX0_empty_20 (fun H locs hP hD hS => ?_)
  have hP : va_P D vwCl [(bk, .inr (0, [.ref alt, .ref abd, .ref aeg, .ref abr, .ref ask, .ref ash, .ref ast, .int (nI sn), .int yr])), (alt, .inl (cI, 5, .inl (upd lt h (-1)))), (abd, .inl (cI, 5, .inl (upd bd h b))), (aeg, .inl (cI, 5, .inl (upd eg h 0)))] H := hP
  have hD : va_D A [(bk, .inr (0, [.ref alt, .ref abd, .ref aeg, .ref abr, .ref ask, .ref ash, .ref ast, .int (nI sn), .int yr])), (alt, .inl (cI, 5, .inl (upd lt h (-1)))), (abd, .inl (cI, 5, .inl (upd bd h b))), (aeg, .inl (cI, 5, .inl (upd eg h 0)))] := hD
  have hP9 := hP.sub (ws' := [(bk, .inr (0, [.ref alt, .ref abd, .ref aeg, .ref abr, .ref ask, .ref ash, .ref ast, .int (nI sn), .int yr])), (alt, .inl (cI, 5, .inl (upd lt h (-1)))), (abd, .inl (cI, 5, .inl (upd bd h b))), (aeg, .inl (cI, 5, .inl (upd eg h 0)))]) [0, 1, 2, 3] rfl
  have hD9 := hD.sub (ws' := [(bk, .inr (0, [.ref alt, .ref abd, .ref aeg, .ref abr, .ref ask, .ref ash, .ref ast, .int (nI sn), .int yr])), (alt, .inl (cI, 5, .inl (upd lt h (-1)))), (abd, .inl (cI, 5, .inl (upd bd h b))), (aeg, .inl (cI, 5, .inl (upd eg h 0)))]) [0, 1, 2, 3] (by decide) rfl
  exact W.vret hx hb hr (fun t ht hW => ⟨⟨(), rfl, trivial, by rw [ht]; exact hP9, hD9⟩, hS.F ht⟩) hS.2.2 dX0_empty_21
