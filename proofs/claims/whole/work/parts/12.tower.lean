
/-! THE TEXT OF KINDS: String.indexOf over the constant "kwlbm"; the page and the tower -/
def sby : Nat → Value := fun j => .int (([107, 119, 108, 98, 109] : List Int32).getD j 0)
def zSt (aK aV : Nat) (A : Nat → Prop) (U : State) (H : Heap) : Prop := va_O "java/lang/String" aK A U H ∧ va_OF "java/lang/String" "coder" "B" (.int 0) aK A U H ∧ va_OF "java/lang/String" "value" "[B" (.ref aV) aK A U H ∧ va_T .byte aV 5 sby A U H ∧ va_Z "java/lang/String" "COMPACT_STRINGS" "Z" (.int 1) A U H
def zQs (aK aV : Nat) (U : State) : Prop := zSt aK aV (fun _ => False) U U.heap
def zSs (aK aV : Nat) (A : Nat → Prop) (U : State) (H : Heap) : Prop := zSt aK aV A U H ∧ vk_R RX4 33 "kwlbm" aK U ∧ vk_R RX2 42 "kwlbm" aK U
def zPs (D : va_G) (cI cZ cA : ClassId) (ws : va_W) (sz aK aV : Nat) (U : State) : Prop := zPw D cI cZ cA ws sz U ∧ zSs aK aV (va_A ws sz) U U.heap
theorem zSt.moved {aK aV : Nat} {A : Nat → Prop} {u U : State} {H : Heap} (hvm : u.vm.Alike U.vm) (h : zSt aK aV A u H) : zSt aK aV A U H := ⟨va_O.moved hvm h.1, va_OF.moved hvm h.2.1, va_OF.moved hvm h.2.2.1, va_T.moved hvm h.2.2.2.1, va_Z.moved hvm h.2.2.2.2⟩
theorem zSt.kept {aK aV : Nat} {A : Nat → Prop} {U : State} {H H1 : Heap} (h : zSt aK aV A U H) (hq : ∀ a : Nat, a < H.size → ¬ A a → H1[a]? = H[a]?) : zSt aK aV A U H1 := ⟨h.1.kept hq, h.2.1.kept hq, h.2.2.1.kept hq, h.2.2.2.1.kept hq, h.2.2.2.2.kept hq⟩
theorem zSt.narrow {aK aV : Nat} {A B : Nat → Prop} {U : State} {H : Heap} (h : zSt aK aV A U H) (hAB : ∀ q, B q → A q) : zSt aK aV B U H := ⟨h.1.narrow hAB, h.2.1.narrow hAB, h.2.2.1.narrow hAB, h.2.2.2.1.narrow hAB, h.2.2.2.2.narrow hAB⟩
theorem zQs.blind {aK aV : Nat} {av : List Value} : FrameBlind (va_Pc av (zQs aK aV)) := fun a U g mk q => ⟨q.1, zSt.moved (u := U) (U := U.calling g mk a) (Vm.Alike.refl U.vm) q.2⟩
theorem zSs.call {aK aV : Nat} {A : Nat → Prop} {U : State} {g : JFrame} {mk : MethodId} {a : Array Value} (h : zSs aK aV A U U.heap) : zSs aK aV A (U.calling g mk a) (U.calling g mk a).heap := ⟨zSt.moved (u := U) (U := U.calling g mk a) (Vm.Alike.refl U.vm) h.1, vk_R.same (u := U) (U := U.calling g mk a) rfl h.2.1, vk_R.same (u := U) (U := U.calling g mk a) rfl h.2.2⟩
theorem zPs.blind {D : va_G} {cI cZ cA : ClassId} {ws : va_W} {sz aK aV : Nat} {av : List Value} : FrameBlind (va_Pc av (zPs D cI cZ cA ws sz aK aV)) := fun a U g mk q => ⟨q.1, (zPw.blind (av := av) a U g mk ⟨q.1, q.2.1⟩).2, q.2.2.call⟩
section ZSTR
variable {p : Program} {l : Launch} {e : Env} {R : Room} {s : State} {m : MethodId} {args : Array Value} {below : List Frame} {meth : Method} {c : Code} {H : Heap} {locs : List Loc} {cells slots : Nat} {Q : State → Prop}
variable {cc bytes : ByteArray} {pc nL maxL n index : Nat} {ls : Array Slot} {rest As st0 : List Value} {D : va_G} {cI cZ cA : ClassId} {A : Nat → Prop} {a b aK aV : Nat} {ws wc wr w1 : va_W} {H0 : Heap} {Ts wsY ws' : List Cond} {own C host : String} {y : MethodName} {ret : Option FieldType} {rm : Room}
theorem zSt.at {U : State} (h : zSt aK aV A s s.heap) (hS : va_S A s.heap H locs) (hW : s.WarmedH U.vm) (hU : U.heap = H) : zQs aK aV U := by
  unfold zQs
  rw [hU]
  exact ((h.kept hS.2.1).narrow (fun _ q => q.elim)).moved hW.alike
theorem z_soVi {v : Int32} (S : CallFix p m c cc nL s args Ts own) (hM : Met l y wsY rm (va_Pc (.ref aK :: As) (zQs aK aV)) (vp_Si (fun r => r = v)) 0 0 (fun _ => False)) (cw : CallW R s args own "java/lang/String" index y bytes maxL ret wsY rm 0 0 n) (hST : zSt aK aV A s s.heap) (hS : va_S A s.heap H locs)
    (hn : As.length = n) (hsize : ls.size = nL) (hst : st0 = As.reverse ++ .ref aK :: rest) (hW : (rest.map fun v => v.category).sum ≤ 8) (hdg : decode cc pc = .ok (.invokevirtual index, 3)) (hf : cells + 0 ≤ R.cells ∧ slots + 0 ≤ R.slots)
    (kk : W p l e R s m args below meth c H locs cells slots Q (F0 m (pc + 3) ls (.int v :: rest))) : W p l e R s m args below meth c H locs cells slots Q (F0 m pc ls st0) := by
  obtain ⟨cell, h1, h2, h3, -⟩ := hST.1.kept hS.2.1
  exact vp_callSi (va_Run.run (va_runV S hM cw ⟨zQs.blind, ⟨cell, h1, h2, h3⟩, fun U hU hWm => ⟨rfl, hST.at hS hWm hU⟩⟩ rfl hn hsize hst (lv_room (m := m) (pc := pc) (ls := ls) (rest := rest) hW) hdg hf)) (fun r hr => by rw [hr]; exact kk)
theorem z_soSi {v : Int32} (S : CallFix p m c cc nL s args Ts own) (hM : Met l y wsY rm (va_Pc As (zQs aK aV)) (vp_Si (fun r => r = v)) 0 0 (fun _ => False)) (cw : CallB R s args own index y bytes maxL ret wsY rm 0 0 n ∧ (Cond.static y).before args s = true) (hST : zSt aK aV A s s.heap) (hS : va_S A s.heap H locs)
    (hn : As.length = n) (hsize : ls.size = nL) (hst : st0 = As.reverse ++ rest) (hW : (rest.map fun v => v.category).sum ≤ 8) (hdg : decode cc pc = .ok (.invokestatic index, 3)) (hf : cells + 0 ≤ R.cells ∧ slots + 0 ≤ R.slots)
    (kk : W p l e R s m args below meth c H locs cells slots Q (F0 m (pc + 3) ls (.int v :: rest))) : W p l e R s m args below meth c H locs cells slots Q (F0 m pc ls st0) :=
  vp_callSi (va_Run.run (va_runS S hM cw ⟨zQs.blind, fun U hU hWm => ⟨rfl, hST.at hS hWm hU⟩⟩ rfl hn hsize hst (lv_room (m := m) (pc := pc) (ls := ls) (rest := rest) hW) hdg hf)) (fun r hr => by rw [hr]; exact kk)
theorem z_rsVi {v : Int32} (S : CallFix p m c cc nL s args Ts own) (hM : Met l y wsY rm (va_Pc (.ref b :: As) (zPs D cI cZ cA wc H.size aK aV)) (va_Qi (fun (r : Int32) (_ : Unit) => r = v) (zB D w1 (va_A wc H.size)) (va_A wc H.size)) 0 0 (va_A wc H.size)) (cw : CallW R s args own C index y bytes maxL ret wsY rm 0 0 n) (hE : zE D cI cZ cA s) (hST : zSs aK aV A s s.heap) (hP : va_P D vwCl ws H) (hD : va_D A ws) (hS : va_S A s.heap H locs) (hA : ∀ q, s.heap.size ≤ q → A q) (is js : List Nat) (hi : is.filterMap (fun i => ws[i]?) = wc) (hs : is.map (fun i => ws[i]?) = wc.map some) (hr : js.map (fun i => ws[i]?) = wr.map some) (hni : va_nd is = true) (hnj : va_nd js = true) (hij : ∀ i ∈ js, i ∉ is) (q0 ci : Nat) {T : u_T} {N : Nat} {fs : List Value} (hc : vwCl[ci]? = some (C, T, N)) (hq : wc[q0]? = some (b, .inr (ci, fs)))
    (hn : As.length = n) (hsize : ls.size = nL) (hst : st0 = As.reverse ++ .ref b :: rest) (hW : (rest.map fun v => v.category).sum ≤ 8) (hdg : decode cc pc = .ok (.invokevirtual index, 3)) (hf : cells + 0 ≤ R.cells ∧ slots + 0 ≤ R.slots)
    (kk : ∀ (H1 : Heap) (locs1 : List Loc), va_P D vwCl (wr ++ w1) H1 → va_D A (wr ++ w1) → va_S A s.heap H1 locs1 → W p l e R s m args below meth c H1 locs1 cells slots Q (F0 m (pc + 3) ls (.int v :: rest))) : W p l e R s m args below meth c H locs cells slots Q (F0 m pc ls st0) := by
  have hPc := hP.sub is hi
  have hDc := hD.sub is hni hs
  have hFc := va_free hD hS hA is hs
  refine va_calli (va_runV S hM cw ⟨zPs.blind, va_recv hE.1 hPc hc hq, fun U hU hWm => ⟨rfl, ⟨by rw [hU], by rw [hU]; exact hPc, hDc.weaken (fun _ _ _ _ => trivial), hE.warm hWm⟩, by rw [hU]; exact ⟨((hST.1.kept hS.2.1).narrow hFc).moved hWm.alike, hST.2.1.warm hWm, hST.2.2.warm hWm⟩⟩⟩ rfl hn hsize hst (lv_room (m := m) (pc := pc) (ls := ls) (rest := rest) hW) hdg hf) hS (fun q _ h => hFc q h) hFc (fun r u t H1 locs1 ht hvm hw hB hz1 hk1 hS1 => ?_)
  obtain ⟨hP1, hD1⟩ := hB
  rw [ht] at hP1
  obtain ⟨hP2, hD2⟩ := va_join hP hD is js hs hr hnj hij hk1 hFc hP1 hD1
  rw [hw]
  exact kk H1 locs1 hP2 hD2 hS1
theorem z_rsVv (S : CallFix p m c cc nL s args Ts own) (hM : Met l y wsY rm (va_Pc (.ref b :: As) (zPs D cI cZ cA wc H.size aK aV)) (va_Qv (fun (_ : Unit) => True) (zB D w1 (va_A wc H.size)) (va_A wc H.size)) 0 0 (va_A wc H.size)) (cw : CallW R s args own C index y bytes maxL ret wsY rm 0 0 n) (hE : zE D cI cZ cA s) (hST : zSs aK aV A s s.heap) (hP : va_P D vwCl ws H) (hD : va_D A ws) (hS : va_S A s.heap H locs) (hA : ∀ q, s.heap.size ≤ q → A q) (is js : List Nat) (hi : is.filterMap (fun i => ws[i]?) = wc) (hs : is.map (fun i => ws[i]?) = wc.map some) (hr : js.map (fun i => ws[i]?) = wr.map some) (hni : va_nd is = true) (hnj : va_nd js = true) (hij : ∀ i ∈ js, i ∉ is) (q0 ci : Nat) {T : u_T} {N : Nat} {fs : List Value} (hc : vwCl[ci]? = some (C, T, N)) (hq : wc[q0]? = some (b, .inr (ci, fs)))
    (hn : As.length = n) (hsize : ls.size = nL) (hst : st0 = As.reverse ++ .ref b :: rest) (hW : (rest.map fun v => v.category).sum ≤ 8) (hdg : decode cc pc = .ok (.invokevirtual index, 3)) (hf : cells + 0 ≤ R.cells ∧ slots + 0 ≤ R.slots)
    (kk : ∀ (H1 : Heap) (locs1 : List Loc), va_P D vwCl (wr ++ w1) H1 → va_D A (wr ++ w1) → va_S A s.heap H1 locs1 → W p l e R s m args below meth c H1 locs1 cells slots Q (F0 m (pc + 3) ls rest)) : W p l e R s m args below meth c H locs cells slots Q (F0 m pc ls st0) := by
  have hPc := hP.sub is hi
  have hDc := hD.sub is hni hs
  have hFc := va_free hD hS hA is hs
  refine va_callv (va_runV S hM cw ⟨zPs.blind, va_recv hE.1 hPc hc hq, fun U hU hWm => ⟨rfl, ⟨by rw [hU], by rw [hU]; exact hPc, hDc.weaken (fun _ _ _ _ => trivial), hE.warm hWm⟩, by rw [hU]; exact ⟨((hST.1.kept hS.2.1).narrow hFc).moved hWm.alike, hST.2.1.warm hWm, hST.2.2.warm hWm⟩⟩⟩ rfl hn hsize hst (lv_room (m := m) (pc := pc) (ls := ls) (rest := rest) hW) hdg hf) hS (fun q _ h => hFc q h) hFc (fun u t H1 locs1 ht hvm hw hB hz1 hk1 hS1 => ?_)
  obtain ⟨hP1, hD1⟩ := hB
  rw [ht] at hP1
  obtain ⟨hP2, hD2⟩ := va_join hP hD is js hs hr hnj hij hk1 hFc hP1 hD1
  exact kk H1 locs1 hP2 hD2 hS1
end ZSTR
theorem b8 : ∀ n, n < 256 → ((107 : Int32) = (nI n).toInt8.toInt32 ↔ nI n = 107) ∧ ((119 : Int32) = (nI n).toInt8.toInt32 ↔ nI n = 119) ∧ ((108 : Int32) = (nI n).toInt8.toInt32 ↔ nI n = 108) ∧ ((98 : Int32) = (nI n).toInt8.toInt32 ↔ nI n = 98) ∧ ((109 : Int32) = (nI n).toInt8.toInt32 ↔ nI n = 109) := by decide +kernel
theorem b8x {c : Int32} (h : ¬ c < 0 ∧ c ≤ 255) : ((107 : Int32) = c.toInt8.toInt32 ↔ c = 107) ∧ ((119 : Int32) = c.toInt8.toInt32 ↔ c = 119) ∧ ((108 : Int32) = c.toInt8.toInt32 ↔ c = 108) ∧ ((98 : Int32) = c.toInt8.toInt32 ↔ c = 98) ∧ ((109 : Int32) = c.toInt8.toInt32 ↔ c = 109) := by
  obtain ⟨n, hn, rfl⟩ := nI_of2 (n := 255) (M := 255) (by decide) h.1 h.2
  exact b8 n (by omega)
theorem kb_out {c : Int32} (h : ¬ (¬ c < 0 ∧ c ≤ 255)) : kb c = -1 := by
  have h1 : ∀ k : Int32, (¬ k < 0 ∧ k ≤ 255) → ¬ c = k := fun k hk e => h (by rw [e]; exact hk)
  rw [kb, if_neg (h1 107 (by decide)), if_neg (h1 119 (by decide)), if_neg (h1 108 (by decide)), if_neg (h1 98 (by decide)), if_neg (h1 109 (by decide))]
def i2 (x : Int32) : Int32 := (x.toUInt32 % 65536).toInt32
def eR (i : Nat) (c vb : Int32) : Int32 × Int32 := if c = 59 ∧ 2 ≤ i / 3 + 1 then (1, nI (i + 1)) else (zb (c = 44 ∧ i / 3 + 1 < 5), vb)
theorem eR_nar {i : Nat} {c vb : Int32} : narrow .boolean (.int (eR i c vb).1) = .int (eR i c vb).1 := by
  by_cases h : c = 59 ∧ 2 ≤ i / 3 + 1
  · rw [show (eR i c vb).1 = 1 by rw [eR, if_pos h]]
    decide
  · rw [show (eR i c vb).1 = zb (c = 44 ∧ i / 3 + 1 < 5) by rw [eR, if_neg h]]
    exact zb_nar
def fR (pg : Nat → Int32) (vb : Int32) (i : Nat) : Int32 := if vb ≤ 0 then (if i % 3 = 0 then zb (¬ kb (i2 (pg i)) < 0) else if i % 3 = 1 then zb (48 ≤ pg i ∧ pg i ≤ 57) else (eR i (pg i) vb).1) else zb ((48 ≤ pg i ∧ pg i ≤ 57) ∧ nI i - vb < 5)
def fE (pg : Nat → Int32) (vb : Int32) (i : Nat) : Int32 := if vb ≤ 0 ∧ ¬ i % 3 = 0 ∧ ¬ i % 3 = 1 then (eR i (pg i) vb).2 else vb
def scC (pg : Nat → Int32) (P : Nat) : Nat × Int32 := scF (fR pg) (fE pg) P 0 0
theorem scF_le {R E : Int32 → Nat → Int32} : ∀ (n i : Nat) (e : Int32), (scF R E n i e).1 ≤ i + n
  | 0, i, e => Nat.le_refl _
  | n + 1, i, e => by
    rw [scF]
    split
    · show i ≤ _; omega
    · have := scF_le (R := R) (E := E) n (i + 1) (E e i); omega
theorem zmin5 {n : Nat} (h : n ≤ 5) : (if nI n < (5 : Int32) then nI n else 5) = nI n := by
  by_cases q : n = 5
  · subst q; rfl
  · have h2 : nI n < (5 : Int32) := (nI_ltI (a := n) (b := 5) (by omega) (by omega)).mpr (by omega)
    rw [if_pos h2]
def rdK (pg : Nat → Int32) : Nat → Int32 := fun k => kb (i2 (pg (3 * k)))
def rdF (pg : Nat → Int32) : Nat → Int32 := fun k => pg (3 * k + 1) - 48
def rdH (pg : Nat → Int32) (V : Nat) : Nat → Int32 := fun h => pg (V + h) - 48
set_option maxHeartbeats 1000000 in
set_option maxRecDepth 100000 in
theorem c_J0_isLatin1_aae02 (l : Launch) (D : va_G) (cI cZ cA : ClassId) (aK : Nat) (aV : Nat)  : Met l yJ0_isLatin1_aae02 wsJ0_isLatin1_aae02 (zr 1) (va_Pc [.ref aK] (zQs aK aV)) (vp_Si (fun r => r = 1)) 0 0 (fun _ => False) := by
  refine Met.ofW (cc := cJ0_isLatin1_aae02) (maxL := 1) (ret := (some .boolean)) (by decide) rfl ?_
  intro p e s m args below meth c s₁ B hml hv
  obtain ⟨rfl, hST⟩ := hv
  have hx := B.exec
  have hb := B.bytes
  have hr := B.returns
  have hts := atoms_spec (ws := wsJ0_isLatin1_aae02) B.pre
  have hown : s.vm.findClass RJ0 = some m.cls := findClass_of_methodNamed B.named
  have hlocks := B.notSynchronized
  have hS : va_S (fun _ => False) s.heap s.heap [] := va_S.rf
  have hl := lv_entry ([.ref aK]) (n := 1) (Nat.le_of_ble_eq_true rfl)
  rw [lg_entry_eq]
  generalize (lg_sl ([.ref aK]) ++ List.replicate (1 - (lg_sl ([.ref aK])).length) Slot.unset).toArray = ls at hl ⊢
  have hl : lv_has ls 1 [(0, .ref aK)] := hl
  have k_0 := hts (.fieldLink RJ0 38 "java/lang/String" "COMPACT_STRINGS" "Z") (by decide +kernel)
  have k_1 := hts (.fieldLink RJ0 15 "java/lang/String" "coder" "B") (by decide +kernel)
  refine va_gets (C := "java/lang/String") (n := "COMPACT_STRINGS") (d := "Z") (v := .int 1) hx hb hST.2.2.2.2 hS hown k_0 (fun _ h9 => h9) dJ0_isLatin1_aae02_0 ?_
  refine lv_if_eq (tgt := 17) hx hb dJ0_isLatin1_aae02_3 (by decide) (fun c_3 => ?_) (fun c_3 => ?_)
  · exact absurd c_3 (by decide)
  · refine lv_aload_n hx hb dJ0_isLatin1_aae02_6 rfl (lv_at hl 0 rfl) ?_
    refine vk_getf (v := .int 0) hx hb hST.2.1 hS hown k_1 (fun _ h9 => h9) dJ0_isLatin1_aae02_7 ?_
    refine lv_if_ne (tgt := 17) hx hb dJ0_isLatin1_aae02_10 (by decide) (fun c_10 => ?_) (fun c_10 => ?_)
    · exact absurd c_10 (by decide)
    · refine lv_iconst (v := 1) hx hb dJ0_isLatin1_aae02_13 (by decide) ?_
      refine lv_goto (tgt := 18) hx hb dJ0_isLatin1_aae02_14 (by decide) ?_
      exact W.zret (v := 1) hx hb hr rfl (fun t ht hW => ⟨1, rfl, rfl, ht⟩) (fun q h => by cases h) dJ0_isLatin1_aae02_18

set_option maxHeartbeats 1000000 in
set_option maxRecDepth 100000 in
theorem c_J0_coder_7d493 (l : Launch) (D : va_G) (cI cZ cA : ClassId) (aK : Nat) (aV : Nat)  : Met l yJ0_coder_7d493 wsJ0_coder_7d493 (zr 1) (va_Pc [.ref aK] (zQs aK aV)) (vp_Si (fun r => r = 0)) 0 0 (fun _ => False) := by
  refine Met.ofW (cc := cJ0_coder_7d493) (maxL := 1) (ret := (some .byte)) (by decide) rfl ?_
  intro p e s m args below meth c s₁ B hml hv
  obtain ⟨rfl, hST⟩ := hv
  have hx := B.exec
  have hb := B.bytes
  have hr := B.returns
  have hts := atoms_spec (ws := wsJ0_coder_7d493) B.pre
  have hown : s.vm.findClass RJ0 = some m.cls := findClass_of_methodNamed B.named
  have hlocks := B.notSynchronized
  have hS : va_S (fun _ => False) s.heap s.heap [] := va_S.rf
  have hl := lv_entry ([.ref aK]) (n := 1) (Nat.le_of_ble_eq_true rfl)
  rw [lg_entry_eq]
  generalize (lg_sl ([.ref aK]) ++ List.replicate (1 - (lg_sl ([.ref aK])).length) Slot.unset).toArray = ls at hl ⊢
  have hl : lv_has ls 1 [(0, .ref aK)] := hl
  have k_0 := hts (.fieldLink RJ0 38 "java/lang/String" "COMPACT_STRINGS" "Z") (by decide +kernel)
  have k_1 := hts (.fieldLink RJ0 15 "java/lang/String" "coder" "B") (by decide +kernel)
  refine va_gets (C := "java/lang/String") (n := "COMPACT_STRINGS") (d := "Z") (v := .int 1) hx hb hST.2.2.2.2 hS hown k_0 (fun _ h9 => h9) dJ0_coder_7d493_0 ?_
  refine lv_if_eq (tgt := 13) hx hb dJ0_coder_7d493_3 (by decide) (fun c_3 => ?_) (fun c_3 => ?_)
  · exact absurd c_3 (by decide)
  · refine lv_aload_n hx hb dJ0_coder_7d493_6 rfl (lv_at hl 0 rfl) ?_
    refine vk_getf (v := .int 0) hx hb hST.2.1 hS hown k_1 (fun _ h9 => h9) dJ0_coder_7d493_7 ?_
    refine lv_goto (tgt := 14) hx hb dJ0_coder_7d493_10 (by decide) ?_
    exact W.zret (v := 0) hx hb hr rfl (fun t ht hW => ⟨0, rfl, rfl, ht⟩) (fun q h => by cases h) dJ0_coder_7d493_14

set_option maxHeartbeats 1000000 in
set_option maxRecDepth 100000 in
theorem c_J0_length_8abf5 (l : Launch) (D : va_G) (cI cZ cA : ClassId) (aK : Nat) (aV : Nat)  : Met l yJ0_length_8abf5 wsJ0_length_8abf5 (zr 2) (va_Pc [.ref aK] (zQs aK aV)) (vp_Si (fun r => r = 5)) 0 0 (fun _ => False) := by
  refine Met.ofW (cc := cJ0_length_8abf5) (maxL := 1) (ret := (some .int)) (by decide) rfl ?_
  intro p e s m args below meth c s₁ B hml hv
  obtain ⟨rfl, hST⟩ := hv
  have hx := B.exec
  have hb := B.bytes
  have hr := B.returns
  have hts := atoms_spec (ws := wsJ0_length_8abf5) B.pre
  have hown : s.vm.findClass RJ0 = some m.cls := findClass_of_methodNamed B.named
  have hlocks := B.notSynchronized
  have hS : va_S (fun _ => False) s.heap s.heap [] := va_S.rf
  have hl := lv_entry ([.ref aK]) (n := 1) (Nat.le_of_ble_eq_true rfl)
  rw [lg_entry_eq]
  generalize (lg_sl ([.ref aK]) ++ List.replicate (1 - (lg_sl ([.ref aK])).length) Slot.unset).toArray = ls at hl ⊢
  have hl : lv_has ls 1 [(0, .ref aK)] := hl
  have k_0 := hts (.fieldLink RJ0 9 "java/lang/String" "value" "[B") (by decide +kernel)
  refine lv_aload_n hx hb dJ0_length_8abf5_0 rfl (lv_at hl 0 rfl) ?_
  refine vk_getf (v := .ref aV) hx hb hST.2.2.1 hS hown k_0 (fun _ h9 => h9) dJ0_length_8abf5_1 ?_
  refine va_tlen (v := 5) hx hb hST.2.2.2.1 hS rfl dJ0_length_8abf5_4 ?_
  refine lv_aload_n hx hb dJ0_length_8abf5_5 rfl (lv_at hl 0 rfl) ?_
  refine z_soVi (As := []) (rest := [.int 5]) ⟨hx, hb, hml, hown, hts⟩ (c_J0_coder_7d493 l D cI cZ cA aK aV ) (cwV 0 hts gJ0_length_8abf5_J0_coder_7d493 rfl rfl rfl (by decide +kernel) ⟨Nat.le_of_ble_eq_true rfl, Nat.le_of_ble_eq_true rfl⟩) hST hS rfl hl.1 rfl (Nat.le_of_ble_eq_true rfl) dJ0_length_8abf5_6 ⟨Nat.zero_le _, Nat.zero_le _⟩ ?_
  refine lv_ishr hx hb dJ0_length_8abf5_9 ?_
  refine W.eq (g2 := F0 m 10 ls [.int 5]) rfl ?_
  exact W.iret (v := 5) hx hb hr (fun t ht hW => ⟨5, rfl, rfl, ht⟩) (fun q h => by cases h) dJ0_length_8abf5_10

set_option maxHeartbeats 1000000 in
set_option maxRecDepth 100000 in
theorem c_J1_canEncode_9a6ad (l : Launch) (D : va_G) (cI cZ cA : ClassId) (aK : Nat) (aV : Nat) (c0 : Int32)  : Met l yJ1_canEncode_9a6ad wsJ1_canEncode_9a6ad (zr 1) (va_Pc [.int c0] (zQs aK aV)) (vp_Si (fun r => r = zb (¬ c0 < 0 ∧ c0 ≤ 255))) 0 0 (fun _ => False) := by
  refine Met.ofW (cc := cJ1_canEncode_9a6ad) (maxL := 1) (ret := (some .boolean)) (by decide) rfl ?_
  intro p e s m args below meth c s₁ B hml hv
  obtain ⟨rfl, hST⟩ := hv
  have hx := B.exec
  have hb := B.bytes
  have hr := B.returns
  have hts := atoms_spec (ws := wsJ1_canEncode_9a6ad) B.pre
  have hown : s.vm.findClass RJ1 = some m.cls := findClass_of_methodNamed B.named
  have hlocks := B.notSynchronized
  have hS : va_S (fun _ => False) s.heap s.heap [] := va_S.rf
  have hl := lv_entry ([.int c0]) (n := 1) (Nat.le_of_ble_eq_true rfl)
  rw [lg_entry_eq]
  generalize (lg_sl ([.int c0]) ++ List.replicate (1 - (lg_sl ([.int c0])).length) Slot.unset).toArray = ls at hl ⊢
  have hl : lv_has ls 1 [(0, .int c0)] := hl
  refine lv_iload_n hx hb dJ1_canEncode_9a6ad_0 rfl (lv_at hl 0 rfl) ?_
  refine lv_if_lt (tgt := 15) hx hb dJ1_canEncode_9a6ad_1 (by decide) (fun c_1 => ?_) (fun c_1 => ?_)
  · refine lv_iconst (v := 0) hx hb dJ1_canEncode_9a6ad_15 (by decide) ?_
    exact W.zret (v := 0) hx hb hr rfl (fun t ht hW => ⟨0, rfl, (by unfold zb; grind), ht⟩) (fun q h => by cases h) dJ1_canEncode_9a6ad_16
  · refine lv_iload_n hx hb dJ1_canEncode_9a6ad_4 rfl (lv_at hl 0 rfl) ?_
    refine lv_sipush (v := 255) hx hb dJ1_canEncode_9a6ad_5 (by decide) ?_
    refine lv_icmp_gt (tgt := 15) hx hb dJ1_canEncode_9a6ad_8 (by decide) (fun c_8 => ?_) (fun c_8 => ?_)
    · have c_8 := Int32.not_le.mpr c_8
      refine lv_iconst (v := 0) hx hb dJ1_canEncode_9a6ad_15 (by decide) ?_
      exact W.zret (v := 0) hx hb hr rfl (fun t ht hW => ⟨0, rfl, (by unfold zb; grind), ht⟩) (fun q h => by cases h) dJ1_canEncode_9a6ad_16
    · have c_8 := Int32.not_lt.mp c_8
      refine lv_iconst (v := 1) hx hb dJ1_canEncode_9a6ad_11 (by decide) ?_
      refine lv_goto (tgt := 16) hx hb dJ1_canEncode_9a6ad_12 (by decide) ?_
      exact W.zret (v := 1) hx hb hr rfl (fun t ht hW => ⟨1, rfl, (by unfold zb; grind), ht⟩) (fun q h => by cases h) dJ1_canEncode_9a6ad_16

set_option maxHeartbeats 1000000 in
set_option maxRecDepth 100000 in
theorem c_J1_indexOfChar_4cfef (l : Launch) (D : va_G) (cI cZ cA : ClassId) (aK : Nat) (aV : Nat) (c0 : Int32) (hc : ¬ c0 < 0 ∧ c0 ≤ 255) : Met l yJ1_indexOfChar_4cfef wsJ1_indexOfChar_4cfef (zr 1) (va_Pc [.ref aV, .int c0, .int 0, .int 5] (zQs aK aV)) (vp_Si (fun r => r = kb c0)) 0 0 (fun _ => False) := by
  refine Met.ofW (cc := cJ1_indexOfChar_4cfef) (maxL := 6) (ret := (some .int)) (by decide) rfl ?_
  intro p e s m args below meth c s₁ B hml hv
  obtain ⟨rfl, hST⟩ := hv
  have hx := B.exec
  have hb := B.bytes
  have hr := B.returns
  have hts := atoms_spec (ws := wsJ1_indexOfChar_4cfef) B.pre
  have hown : s.vm.findClass RJ1 = some m.cls := findClass_of_methodNamed B.named
  have hlocks := B.notSynchronized
  have hS : va_S (fun _ => False) s.heap s.heap [] := va_S.rf
  have hl := lv_entry ([.ref aV, .int c0, .int 0, .int 5]) (n := 6) (Nat.le_of_ble_eq_true rfl)
  rw [lg_entry_eq]
  generalize (lg_sl ([.ref aV, .int c0, .int 0, .int 5]) ++ List.replicate (6 - (lg_sl ([.ref aV, .int c0, .int 0, .int 5])).length) Slot.unset).toArray = ls at hl ⊢
  have hl : lv_has ls 6 [(0, .ref aV), (1, .int c0), (2, .int 0), (3, .int 5)] := hl
  refine lv_iload_n hx hb dJ1_indexOfChar_4cfef_0 rfl (lv_at hl 1 rfl) ?_
  refine lv_i2b (v := (c0 : Int32).toInt8.toInt32) hx hb dJ1_indexOfChar_4cfef_1 rfl ?_
  refine lv_istore (lv' := [(4, .int ((c0 : Int32).toInt8.toInt32)), (0, .ref aV), (1, .int c0), (2, .int 0), (3, .int 5)]) hx hb dJ1_indexOfChar_4cfef_2 hl (by decide) rfl (fun ls hl => ?_)
  refine lv_iload_n hx hb dJ1_indexOfChar_4cfef_4 rfl (lv_at hl 3 rfl) ?_
  refine lv_istore (lv' := [(5, .int 0), (4, .int ((c0 : Int32).toInt8.toInt32)), (0, .ref aV), (1, .int c0), (2, .int 0), (3, .int 5)]) hx hb dJ1_indexOfChar_4cfef_5 hl (by decide) rfl (fun ls hl => ?_)
  refine lv_iload hx hb dJ1_indexOfChar_4cfef_7 (lv_at hl 0 rfl) ?_
  refine lv_iload_n hx hb dJ1_indexOfChar_4cfef_9 rfl (lv_at hl 5 rfl) ?_
  refine lv_icmp_ge (tgt := 31) hx hb dJ1_indexOfChar_4cfef_10 (by decide) (fun c_10 => ?_) (fun c_10 => ?_)
  · exact absurd c_10 (by decide)
  · refine lv_aload_n hx hb dJ1_indexOfChar_4cfef_13 rfl (lv_at hl 2 rfl) ?_
    refine lv_iload hx hb dJ1_indexOfChar_4cfef_14 (lv_at hl 0 rfl) ?_
    refine va_tb (v := .int 107) hx hb hST.2.2.2.1 hS (vp_in_nI (n := 0) (by decide) (by decide)) rfl dJ1_indexOfChar_4cfef_16 ?_
    refine lv_iload hx hb dJ1_indexOfChar_4cfef_17 (lv_at hl 1 rfl) ?_
    refine lv_icmp_ne (tgt := 25) hx hb dJ1_indexOfChar_4cfef_19 (by decide) (fun c_19 => ?_) (fun c_19 => ?_)
    · have u0 : ¬ c0 = 107 := fun q => c_19 ((b8x hc).1.mpr q)
      refine lv_iinc (v := 1) (lv' := [(5, .int 1), (4, .int ((c0 : Int32).toInt8.toInt32)), (0, .ref aV), (1, .int c0), (2, .int 0), (3, .int 5)]) hx hb dJ1_indexOfChar_4cfef_25 hl (k := 0) rfl (by decide) (by decide) rfl (fun ls hl => ?_)
      refine lv_goto (tgt := 7) hx hb dJ1_indexOfChar_4cfef_28 (by decide) ?_
      refine lv_iload hx hb dJ1_indexOfChar_4cfef_7 (lv_at hl 0 rfl) ?_
      refine lv_iload_n hx hb dJ1_indexOfChar_4cfef_9 rfl (lv_at hl 5 rfl) ?_
      refine lv_icmp_ge (tgt := 31) hx hb dJ1_indexOfChar_4cfef_10 (by decide) (fun c_10 => ?_) (fun c_10 => ?_)
      · exact absurd c_10 (by decide)
      · refine lv_aload_n hx hb dJ1_indexOfChar_4cfef_13 rfl (lv_at hl 2 rfl) ?_
        refine lv_iload hx hb dJ1_indexOfChar_4cfef_14 (lv_at hl 0 rfl) ?_
        refine va_tb (v := .int 119) hx hb hST.2.2.2.1 hS (vp_in_nI (n := 1) (by decide) (by decide)) rfl dJ1_indexOfChar_4cfef_16 ?_
        refine lv_iload hx hb dJ1_indexOfChar_4cfef_17 (lv_at hl 1 rfl) ?_
        refine lv_icmp_ne (tgt := 25) hx hb dJ1_indexOfChar_4cfef_19 (by decide) (fun c_19 => ?_) (fun c_19 => ?_)
        · have u1 : ¬ c0 = 119 := fun q => c_19 ((b8x hc).2.1.mpr q)
          refine lv_iinc (v := 2) (lv' := [(5, .int 2), (4, .int ((c0 : Int32).toInt8.toInt32)), (0, .ref aV), (1, .int c0), (2, .int 0), (3, .int 5)]) hx hb dJ1_indexOfChar_4cfef_25 hl (k := 0) rfl (by decide) (by decide) rfl (fun ls hl => ?_)
          refine lv_goto (tgt := 7) hx hb dJ1_indexOfChar_4cfef_28 (by decide) ?_
          refine lv_iload hx hb dJ1_indexOfChar_4cfef_7 (lv_at hl 0 rfl) ?_
          refine lv_iload_n hx hb dJ1_indexOfChar_4cfef_9 rfl (lv_at hl 5 rfl) ?_
          refine lv_icmp_ge (tgt := 31) hx hb dJ1_indexOfChar_4cfef_10 (by decide) (fun c_10 => ?_) (fun c_10 => ?_)
          · exact absurd c_10 (by decide)
          · refine lv_aload_n hx hb dJ1_indexOfChar_4cfef_13 rfl (lv_at hl 2 rfl) ?_
            refine lv_iload hx hb dJ1_indexOfChar_4cfef_14 (lv_at hl 0 rfl) ?_
            refine va_tb (v := .int 108) hx hb hST.2.2.2.1 hS (vp_in_nI (n := 2) (by decide) (by decide)) rfl dJ1_indexOfChar_4cfef_16 ?_
            refine lv_iload hx hb dJ1_indexOfChar_4cfef_17 (lv_at hl 1 rfl) ?_
            refine lv_icmp_ne (tgt := 25) hx hb dJ1_indexOfChar_4cfef_19 (by decide) (fun c_19 => ?_) (fun c_19 => ?_)
            · have u2 : ¬ c0 = 108 := fun q => c_19 ((b8x hc).2.2.1.mpr q)
              refine lv_iinc (v := 3) (lv' := [(5, .int 3), (4, .int ((c0 : Int32).toInt8.toInt32)), (0, .ref aV), (1, .int c0), (2, .int 0), (3, .int 5)]) hx hb dJ1_indexOfChar_4cfef_25 hl (k := 0) rfl (by decide) (by decide) rfl (fun ls hl => ?_)
              refine lv_goto (tgt := 7) hx hb dJ1_indexOfChar_4cfef_28 (by decide) ?_
              refine lv_iload hx hb dJ1_indexOfChar_4cfef_7 (lv_at hl 0 rfl) ?_
              refine lv_iload_n hx hb dJ1_indexOfChar_4cfef_9 rfl (lv_at hl 5 rfl) ?_
              refine lv_icmp_ge (tgt := 31) hx hb dJ1_indexOfChar_4cfef_10 (by decide) (fun c_10 => ?_) (fun c_10 => ?_)
              · exact absurd c_10 (by decide)
              · refine lv_aload_n hx hb dJ1_indexOfChar_4cfef_13 rfl (lv_at hl 2 rfl) ?_
                refine lv_iload hx hb dJ1_indexOfChar_4cfef_14 (lv_at hl 0 rfl) ?_
                refine va_tb (v := .int 98) hx hb hST.2.2.2.1 hS (vp_in_nI (n := 3) (by decide) (by decide)) rfl dJ1_indexOfChar_4cfef_16 ?_
                refine lv_iload hx hb dJ1_indexOfChar_4cfef_17 (lv_at hl 1 rfl) ?_
                refine lv_icmp_ne (tgt := 25) hx hb dJ1_indexOfChar_4cfef_19 (by decide) (fun c_19 => ?_) (fun c_19 => ?_)
                · have u3 : ¬ c0 = 98 := fun q => c_19 ((b8x hc).2.2.2.1.mpr q)
                  refine lv_iinc (v := 4) (lv' := [(5, .int 4), (4, .int ((c0 : Int32).toInt8.toInt32)), (0, .ref aV), (1, .int c0), (2, .int 0), (3, .int 5)]) hx hb dJ1_indexOfChar_4cfef_25 hl (k := 0) rfl (by decide) (by decide) rfl (fun ls hl => ?_)
                  refine lv_goto (tgt := 7) hx hb dJ1_indexOfChar_4cfef_28 (by decide) ?_
                  refine lv_iload hx hb dJ1_indexOfChar_4cfef_7 (lv_at hl 0 rfl) ?_
                  refine lv_iload_n hx hb dJ1_indexOfChar_4cfef_9 rfl (lv_at hl 5 rfl) ?_
                  refine lv_icmp_ge (tgt := 31) hx hb dJ1_indexOfChar_4cfef_10 (by decide) (fun c_10 => ?_) (fun c_10 => ?_)
                  · exact absurd c_10 (by decide)
                  · refine lv_aload_n hx hb dJ1_indexOfChar_4cfef_13 rfl (lv_at hl 2 rfl) ?_
                    refine lv_iload hx hb dJ1_indexOfChar_4cfef_14 (lv_at hl 0 rfl) ?_
                    refine va_tb (v := .int 109) hx hb hST.2.2.2.1 hS (vp_in_nI (n := 4) (by decide) (by decide)) rfl dJ1_indexOfChar_4cfef_16 ?_
                    refine lv_iload hx hb dJ1_indexOfChar_4cfef_17 (lv_at hl 1 rfl) ?_
                    refine lv_icmp_ne (tgt := 25) hx hb dJ1_indexOfChar_4cfef_19 (by decide) (fun c_19 => ?_) (fun c_19 => ?_)
                    · have u4 : ¬ c0 = 109 := fun q => c_19 ((b8x hc).2.2.2.2.mpr q)
                      refine lv_iinc (v := 5) (lv' := [(5, .int 5), (4, .int ((c0 : Int32).toInt8.toInt32)), (0, .ref aV), (1, .int c0), (2, .int 0), (3, .int 5)]) hx hb dJ1_indexOfChar_4cfef_25 hl (k := 0) rfl (by decide) (by decide) rfl (fun ls hl => ?_)
                      refine lv_goto (tgt := 7) hx hb dJ1_indexOfChar_4cfef_28 (by decide) ?_
                      refine lv_iload hx hb dJ1_indexOfChar_4cfef_7 (lv_at hl 0 rfl) ?_
                      refine lv_iload_n hx hb dJ1_indexOfChar_4cfef_9 rfl (lv_at hl 5 rfl) ?_
                      refine lv_icmp_ge (tgt := 31) hx hb dJ1_indexOfChar_4cfef_10 (by decide) (fun c_10 => ?_) (fun c_10 => ?_)
                      · refine lv_iconst (v := (-1)) hx hb dJ1_indexOfChar_4cfef_31 (by decide) ?_
                        exact W.iret (v := (-1)) hx hb hr (fun t ht hW => ⟨(-1), rfl, (by unfold kb; simp [u0, u1, u2, u3, u4]), ht⟩) (fun q h => by cases h) dJ1_indexOfChar_4cfef_32
                      · exact absurd c_10 (by decide)
                    · have u4 : c0 = 109 := (b8x hc).2.2.2.2.mp c_19
                      refine lv_iload hx hb dJ1_indexOfChar_4cfef_22 (lv_at hl 0 rfl) ?_
                      exact W.iret (v := 4) hx hb hr (fun t ht hW => ⟨4, rfl, (by unfold kb; simp [u0, u1, u2, u3, u4]), ht⟩) (fun q h => by cases h) dJ1_indexOfChar_4cfef_24
                · have u3 : c0 = 98 := (b8x hc).2.2.2.1.mp c_19
                  refine lv_iload hx hb dJ1_indexOfChar_4cfef_22 (lv_at hl 0 rfl) ?_
                  exact W.iret (v := 3) hx hb hr (fun t ht hW => ⟨3, rfl, (by unfold kb; simp [u0, u1, u2, u3]), ht⟩) (fun q h => by cases h) dJ1_indexOfChar_4cfef_24
            · have u2 : c0 = 108 := (b8x hc).2.2.1.mp c_19
              refine lv_iload hx hb dJ1_indexOfChar_4cfef_22 (lv_at hl 0 rfl) ?_
              exact W.iret (v := 2) hx hb hr (fun t ht hW => ⟨2, rfl, (by unfold kb; simp [u0, u1, u2]), ht⟩) (fun q h => by cases h) dJ1_indexOfChar_4cfef_24
        · have u1 : c0 = 119 := (b8x hc).2.1.mp c_19
          refine lv_iload hx hb dJ1_indexOfChar_4cfef_22 (lv_at hl 0 rfl) ?_
          exact W.iret (v := 1) hx hb hr (fun t ht hW => ⟨1, rfl, (by unfold kb; simp [u0, u1]), ht⟩) (fun q h => by cases h) dJ1_indexOfChar_4cfef_24
    · have u0 : c0 = 107 := (b8x hc).1.mp c_19
      refine lv_iload hx hb dJ1_indexOfChar_4cfef_22 (lv_at hl 0 rfl) ?_
      exact W.iret (v := 0) hx hb hr (fun t ht hW => ⟨0, rfl, (by unfold kb; simp [u0]), ht⟩) (fun q h => by cases h) dJ1_indexOfChar_4cfef_24

set_option maxHeartbeats 1000000 in
set_option maxRecDepth 100000 in
theorem c_J1_indexOf_4cfef (l : Launch) (D : va_G) (cI cZ cA : ClassId) (aK : Nat) (aV : Nat) (c0 : Int32)  : Met l yJ1_indexOf_4cfef wsJ1_indexOf_4cfef (zr 2) (va_Pc [.ref aV, .int c0, .int 0, .int 5] (zQs aK aV)) (vp_Si (fun r => r = kb c0)) 0 0 (fun _ => False) := by
  refine Met.ofW (cc := cJ1_indexOf_4cfef) (maxL := 4) (ret := (some .int)) (by decide) rfl ?_
  intro p e s m args below meth c s₁ B hml hv
  obtain ⟨rfl, hST⟩ := hv
  have hx := B.exec
  have hb := B.bytes
  have hr := B.returns
  have hts := atoms_spec (ws := wsJ1_indexOf_4cfef) B.pre
  have hown : s.vm.findClass RJ1 = some m.cls := findClass_of_methodNamed B.named
  have hlocks := B.notSynchronized
  have hS : va_S (fun _ => False) s.heap s.heap [] := va_S.rf
  have hl := lv_entry ([.ref aV, .int c0, .int 0, .int 5]) (n := 4) (Nat.le_of_ble_eq_true rfl)
  rw [lg_entry_eq]
  generalize (lg_sl ([.ref aV, .int c0, .int 0, .int 5]) ++ List.replicate (4 - (lg_sl ([.ref aV, .int c0, .int 0, .int 5])).length) Slot.unset).toArray = ls at hl ⊢
  have hl : lv_has ls 4 [(0, .ref aV), (1, .int c0), (2, .int 0), (3, .int 5)] := hl
  have k_0 := hts (.methodLink RJ1 92 Lib.Math.max.name) (by decide +kernel)
  have k_1 := hts (.static Lib.Math.max.name) (by decide +kernel)
  have k_2 := hts (.initialized "java/lang/Math") (by decide +kernel)
  have k_3 := hts (.code Lib.Math.max.name Lib.Math.max.code 2 (some .int)) (by decide +kernel)
  have k_4 := hts (.methodLink RJ1 38 Lib.Math.min.name) (by decide +kernel)
  have k_5 := hts (.static Lib.Math.min.name) (by decide +kernel)
  have k_6 := hts (.code Lib.Math.min.name Lib.Math.min.code 2 (some .int)) (by decide +kernel)
  refine lv_iload_n hx hb dJ1_indexOf_4cfef_0 rfl (lv_at hl 1 rfl) ?_
  refine z_soSi (As := [.int c0]) (rest := []) ⟨hx, hb, hml, hown, hts⟩ (c_J1_canEncode_9a6ad l D cI cZ cA aK aV c0 ) (va_cwS 1 hts gJ1_indexOf_4cfef_J1_canEncode_9a6ad rfl rfl rfl (by decide +kernel) ⟨Nat.le_of_ble_eq_true rfl, Nat.le_of_ble_eq_true rfl⟩) hST hS rfl hl.1 rfl (Nat.le_of_ble_eq_true rfl) dJ1_indexOf_4cfef_1 ⟨Nat.zero_le _, Nat.zero_le _⟩ ?_
  refine lv_if_ne (tgt := 9) hx hb dJ1_indexOf_4cfef_4 (by decide) (fun c_4 => ?_) (fun c_4 => ?_)
  · have c_4 := zb_1 c_4
    refine lv_iload_n hx hb dJ1_indexOf_4cfef_9 rfl (lv_at hl 2 rfl) ?_
    refine lv_iconst (v := 0) hx hb dJ1_indexOf_4cfef_10 (by decide) ?_
    refine va_mmax (hx) hb (by rw [hml]; exact hl.1.symm) hown k_0 k_1 k_2 k_3 (Nat.le_of_ble_eq_true rfl) (Nat.le_of_ble_eq_true rfl) (Nat.zero_le _) (Nat.zero_le _) dJ1_indexOf_4cfef_11 ?_
    refine W.eq (g2 := F0 m 14 ls [.int 0]) (by simp) ?_
    refine lv_istore_n (lv' := [(2, .int 0), (0, .ref aV), (1, .int c0), (3, .int 5)]) hx hb dJ1_indexOf_4cfef_14 rfl hl (by decide) rfl (fun ls hl => ?_)
    refine lv_iload_n hx hb dJ1_indexOf_4cfef_15 rfl (lv_at hl 3 rfl) ?_
    refine lv_aload_n hx hb dJ1_indexOf_4cfef_16 rfl (lv_at hl 1 rfl) ?_
    refine va_tlen (v := 5) hx hb hST.2.2.2.1 hS rfl dJ1_indexOf_4cfef_17 ?_
    refine va_mmin (hx) hb (by rw [hml]; exact hl.1.symm) hown k_4 k_5 k_2 k_6 (Nat.le_of_ble_eq_true rfl) (Nat.le_of_ble_eq_true rfl) (Nat.zero_le _) (Nat.zero_le _) dJ1_indexOf_4cfef_18 ?_
    refine W.eq (g2 := F0 m 21 ls [.int 5]) (by simp) ?_
    refine lv_istore_n (lv' := [(3, .int 5), (2, .int 0), (0, .ref aV), (1, .int c0)]) hx hb dJ1_indexOf_4cfef_21 rfl hl (by decide) rfl (fun ls hl => ?_)
    refine lv_iload_n hx hb dJ1_indexOf_4cfef_22 rfl (lv_at hl 1 rfl) ?_
    refine lv_iload_n hx hb dJ1_indexOf_4cfef_23 rfl (lv_at hl 0 rfl) ?_
    refine lv_icmp_lt (tgt := 29) hx hb dJ1_indexOf_4cfef_24 (by decide) (fun c_24 => ?_) (fun c_24 => ?_)
    · refine lv_aload_n hx hb dJ1_indexOf_4cfef_29 rfl (lv_at hl 2 rfl) ?_
      refine lv_iload_n hx hb dJ1_indexOf_4cfef_30 rfl (lv_at hl 3 rfl) ?_
      refine lv_iload_n hx hb dJ1_indexOf_4cfef_31 rfl (lv_at hl 1 rfl) ?_
      refine lv_iload_n hx hb dJ1_indexOf_4cfef_32 rfl (lv_at hl 0 rfl) ?_
      refine z_soSi (As := [.ref aV, .int c0, .int 0, .int 5]) (rest := []) ⟨hx, hb, hml, hown, hts⟩ (c_J1_indexOfChar_4cfef l D cI cZ cA aK aV c0 (by first | assumption | omega)) (va_cwS 4 hts gJ1_indexOf_4cfef_J1_indexOfChar_4cfef rfl rfl rfl (by decide +kernel) ⟨Nat.le_of_ble_eq_true rfl, Nat.le_of_ble_eq_true rfl⟩) hST hS rfl hl.1 rfl (Nat.le_of_ble_eq_true rfl) dJ1_indexOf_4cfef_33 ⟨Nat.zero_le _, Nat.zero_le _⟩ ?_
      exact W.iret (v := (kb c0)) hx hb hr (fun t ht hW => ⟨(kb c0), rfl, rfl, ht⟩) (fun q h => by cases h) dJ1_indexOf_4cfef_36
    · exact absurd c_24 (by decide)
  · have c_4 := zb_0 c_4
    refine lv_iconst (v := (-1)) hx hb dJ1_indexOf_4cfef_7 (by decide) ?_
    exact W.iret (v := (-1)) hx hb hr (fun t ht hW => ⟨(-1), rfl, (kb_out c_4).symm, ht⟩) (fun q h => by cases h) dJ1_indexOf_4cfef_8

set_option maxHeartbeats 1000000 in
set_option maxRecDepth 100000 in
theorem c_J0_indexOf_7cf53 (l : Launch) (D : va_G) (cI cZ cA : ClassId) (aK : Nat) (aV : Nat) (c0 : Int32)  : Met l yJ0_indexOf_7cf53 wsJ0_indexOf_7cf53 (zr 3) (va_Pc [.ref aK, .int c0, .int 0] (zQs aK aV)) (vp_Si (fun r => r = kb c0)) 0 0 (fun _ => False) := by
  refine Met.ofW (cc := cJ0_indexOf_7cf53) (maxL := 3) (ret := (some .int)) (by decide) rfl ?_
  intro p e s m args below meth c s₁ B hml hv
  obtain ⟨rfl, hST⟩ := hv
  have hx := B.exec
  have hb := B.bytes
  have hr := B.returns
  have hts := atoms_spec (ws := wsJ0_indexOf_7cf53) B.pre
  have hown : s.vm.findClass RJ0 = some m.cls := findClass_of_methodNamed B.named
  have hlocks := B.notSynchronized
  have hS : va_S (fun _ => False) s.heap s.heap [] := va_S.rf
  have hl := lv_entry ([.ref aK, .int c0, .int 0]) (n := 3) (Nat.le_of_ble_eq_true rfl)
  rw [lg_entry_eq]
  generalize (lg_sl ([.ref aK, .int c0, .int 0]) ++ List.replicate (3 - (lg_sl ([.ref aK, .int c0, .int 0])).length) Slot.unset).toArray = ls at hl ⊢
  have hl : lv_has ls 3 [(0, .ref aK), (1, .int c0), (2, .int 0)] := hl
  have k_0 := hts (.fieldLink RJ0 9 "java/lang/String" "value" "[B") (by decide +kernel)
  refine lv_aload_n hx hb dJ0_indexOf_7cf53_0 rfl (lv_at hl 0 rfl) ?_
  refine z_soVi (As := []) (rest := []) ⟨hx, hb, hml, hown, hts⟩ (c_J0_isLatin1_aae02 l D cI cZ cA aK aV ) (cwV 0 hts gJ0_indexOf_7cf53_J0_isLatin1_aae02 rfl rfl rfl (by decide +kernel) ⟨Nat.le_of_ble_eq_true rfl, Nat.le_of_ble_eq_true rfl⟩) hST hS rfl hl.1 rfl (Nat.le_of_ble_eq_true rfl) dJ0_indexOf_7cf53_1 ⟨Nat.zero_le _, Nat.zero_le _⟩ ?_
  refine lv_if_eq (tgt := 23) hx hb dJ0_indexOf_7cf53_4 (by decide) (fun c_4 => ?_) (fun c_4 => ?_)
  · exact absurd c_4 (by decide)
  · refine lv_aload_n hx hb dJ0_indexOf_7cf53_7 rfl (lv_at hl 0 rfl) ?_
    refine vk_getf (v := .ref aV) hx hb hST.2.2.1 hS hown k_0 (fun _ h9 => h9) dJ0_indexOf_7cf53_8 ?_
    refine lv_iload_n hx hb dJ0_indexOf_7cf53_11 rfl (lv_at hl 1 rfl) ?_
    refine lv_iload_n hx hb dJ0_indexOf_7cf53_12 rfl (lv_at hl 2 rfl) ?_
    refine lv_aload_n hx hb dJ0_indexOf_7cf53_13 rfl (lv_at hl 0 rfl) ?_
    refine z_soVi (As := []) (rest := [.int 0, .int c0, .ref aV]) ⟨hx, hb, hml, hown, hts⟩ (c_J0_length_8abf5 l D cI cZ cA aK aV ) (cwV 0 hts gJ0_indexOf_7cf53_J0_length_8abf5 rfl rfl rfl (by decide +kernel) ⟨Nat.le_of_ble_eq_true rfl, Nat.le_of_ble_eq_true rfl⟩) hST hS rfl hl.1 rfl (Nat.le_of_ble_eq_true rfl) dJ0_indexOf_7cf53_14 ⟨Nat.zero_le _, Nat.zero_le _⟩ ?_
    refine z_soSi (As := [.ref aV, .int c0, .int 0, .int (5)]) (rest := []) ⟨hx, hb, hml, hown, hts⟩ (c_J1_indexOf_4cfef l D cI cZ cA aK aV c0 ) (va_cwS 4 hts gJ0_indexOf_7cf53_J1_indexOf_4cfef rfl rfl rfl (by decide +kernel) ⟨Nat.le_of_ble_eq_true rfl, Nat.le_of_ble_eq_true rfl⟩) hST hS rfl hl.1 rfl (Nat.le_of_ble_eq_true rfl) dJ0_indexOf_7cf53_17 ⟨Nat.zero_le _, Nat.zero_le _⟩ ?_
    refine lv_goto (tgt := 36) hx hb dJ0_indexOf_7cf53_20 (by decide) ?_
    exact W.iret (v := (kb c0)) hx hb hr (fun t ht hW => ⟨(kb c0), rfl, rfl, ht⟩) (fun q h => by cases h) dJ0_indexOf_7cf53_36

set_option maxHeartbeats 1000000 in
set_option maxRecDepth 100000 in
theorem c_J0_indexOf_0f7a4 (l : Launch) (D : va_G) (cI cZ cA : ClassId) (aK : Nat) (aV : Nat) (c0 : Int32)  : Met l yJ0_indexOf_0f7a4 wsJ0_indexOf_0f7a4 (zr 4) (va_Pc [.ref aK, .int c0] (zQs aK aV)) (vp_Si (fun r => r = kb c0)) 0 0 (fun _ => False) := by
  refine Met.ofW (cc := cJ0_indexOf_0f7a4) (maxL := 2) (ret := (some .int)) (by decide) rfl ?_
  intro p e s m args below meth c s₁ B hml hv
  obtain ⟨rfl, hST⟩ := hv
  have hx := B.exec
  have hb := B.bytes
  have hr := B.returns
  have hts := atoms_spec (ws := wsJ0_indexOf_0f7a4) B.pre
  have hown : s.vm.findClass RJ0 = some m.cls := findClass_of_methodNamed B.named
  have hlocks := B.notSynchronized
  have hS : va_S (fun _ => False) s.heap s.heap [] := va_S.rf
  have hl := lv_entry ([.ref aK, .int c0]) (n := 2) (Nat.le_of_ble_eq_true rfl)
  rw [lg_entry_eq]
  generalize (lg_sl ([.ref aK, .int c0]) ++ List.replicate (2 - (lg_sl ([.ref aK, .int c0])).length) Slot.unset).toArray = ls at hl ⊢
  have hl : lv_has ls 2 [(0, .ref aK), (1, .int c0)] := hl
  refine lv_aload_n hx hb dJ0_indexOf_0f7a4_0 rfl (lv_at hl 0 rfl) ?_
  refine lv_iload_n hx hb dJ0_indexOf_0f7a4_1 rfl (lv_at hl 1 rfl) ?_
  refine lv_iconst (v := 0) hx hb dJ0_indexOf_0f7a4_2 (by decide) ?_
  refine z_soVi (As := [.int c0, .int 0]) (rest := []) ⟨hx, hb, hml, hown, hts⟩ (c_J0_indexOf_7cf53 l D cI cZ cA aK aV c0 ) (cwV 2 hts gJ0_indexOf_0f7a4_J0_indexOf_7cf53 rfl rfl rfl (by decide +kernel) ⟨Nat.le_of_ble_eq_true rfl, Nat.le_of_ble_eq_true rfl⟩) hST hS rfl hl.1 rfl (Nat.le_of_ble_eq_true rfl) dJ0_indexOf_0f7a4_3 ⟨Nat.zero_le _, Nat.zero_le _⟩ ?_
  exact W.iret (v := (kb c0)) hx hb hr (fun t ht hW => ⟨(kb c0), rfl, rfl, ht⟩) (fun q h => by cases h) dJ0_indexOf_0f7a4_6

set_option maxHeartbeats 1000000 in
set_option maxRecDepth 100000 in
theorem c_X4_isDigit (l : Launch) (D : va_G) (cI cZ cA : ClassId) (c0 : Int32)  : Met l yX4_isDigit wsX4_isDigit (zr 1) (va_Pc [.int c0] (zPr D cI cZ cA [])) (vp_Si (fun r => r = zb (48 ≤ c0 ∧ c0 ≤ 57))) 0 0 (fun _ => False) := by
  refine Met.ofW (cc := cX4_isDigit) (maxL := 1) (ret := (some .boolean)) (by decide) rfl ?_
  intro p e s m args below meth c s₁ B hml hv
  obtain ⟨rfl, hP, hE⟩ := hv
  have hx := B.exec
  have hb := B.bytes
  have hr := B.returns
  have hts := atoms_spec (ws := wsX4_isDigit) B.pre
  have hown : s.vm.findClass RX4 = some m.cls := findClass_of_methodNamed B.named
  have hlocks := B.notSynchronized
  have hP : va_P D vwCl [] s.heap := hP
  have hl := lv_entry ([.int c0]) (n := 1) (Nat.le_of_ble_eq_true rfl)
  rw [lg_entry_eq]
  generalize (lg_sl ([.int c0]) ++ List.replicate (1 - (lg_sl ([.int c0])).length) Slot.unset).toArray = ls at hl ⊢
  have hl : lv_has ls 1 [(0, .int c0)] := hl
  refine lv_iload_n hx hb dX4_isDigit_0 rfl (lv_at hl 0 rfl) ?_
  refine lv_bipush (v := 48) hx hb dX4_isDigit_1 (by decide) ?_
  refine lv_icmp_lt (tgt := 16) hx hb dX4_isDigit_3 (by decide) (fun c_3 => ?_) (fun c_3 => ?_)
  · have c_3 := Int32.not_le.mpr c_3
    refine lv_iconst (v := 0) hx hb dX4_isDigit_16 (by decide) ?_
    exact W.zret (v := 0) hx hb hr rfl (fun t ht hW => ⟨0, rfl, (by unfold zb; grind), ht⟩) (fun q h => by cases h) dX4_isDigit_17
  · have c_3 := Int32.not_lt.mp c_3
    refine lv_iload_n hx hb dX4_isDigit_6 rfl (lv_at hl 0 rfl) ?_
    refine lv_bipush (v := 57) hx hb dX4_isDigit_7 (by decide) ?_
    refine lv_icmp_gt (tgt := 16) hx hb dX4_isDigit_9 (by decide) (fun c_9 => ?_) (fun c_9 => ?_)
    · have c_9 := Int32.not_le.mpr c_9
      refine lv_iconst (v := 0) hx hb dX4_isDigit_16 (by decide) ?_
      exact W.zret (v := 0) hx hb hr rfl (fun t ht hW => ⟨0, rfl, (by unfold zb; grind), ht⟩) (fun q h => by cases h) dX4_isDigit_17
    · have c_9 := Int32.not_lt.mp c_9
      refine lv_iconst (v := 1) hx hb dX4_isDigit_12 (by decide) ?_
      refine lv_goto (tgt := 17) hx hb dX4_isDigit_13 (by decide) ?_
      exact W.zret (v := 1) hx hb hr rfl (fun t ht hW => ⟨1, rfl, (by unfold zb; grind), ht⟩) (fun q h => by cases h) dX4_isDigit_17

set_option maxHeartbeats 1000000 in
set_option maxRecDepth 100000 in
theorem c_X4_endsKeeper (l : Launch) (D : va_G) (cI cZ cA : ClassId) (sz : Nat) (pg : Nat) (apl : Nat) (P : Nat) (vb : Int32) (i : Nat) (c0 : Int32) (hi : i < 22) : Met l yX4_endsKeeper wsX4_endsKeeper (zr 1) (va_Pc [.ref pg, .int (nI i), .int c0] (zPw D cI cZ cA [(pg, .inr (4, [.ref apl, .int (nI P), .int vb]))] sz)) (va_Qi (fun (r : Int32) (_ : Unit) => r = (eR i c0 vb).1) (zB D [(pg, .inr (4, [.ref apl, .int (nI P), .int ((eR i c0 vb).2)]))] (va_A [(pg, .inr (4, [.ref apl, .int (nI P), .int vb]))] sz)) (va_A [(pg, .inr (4, [.ref apl, .int (nI P), .int vb]))] sz)) 0 0 (va_A [(pg, .inr (4, [.ref apl, .int (nI P), .int vb]))] sz) := by
  refine Met.ofW (cc := cX4_endsKeeper) (maxL := 4) (ret := (some .boolean)) (by decide) rfl ?_
  intro p e s m args below meth c s₁ B hml hv
  obtain ⟨rfl, hsz, hP, hD0, hE⟩ := hv
  have hx := B.exec
  have hb := B.bytes
  have hr := B.returns
  have hts := atoms_spec (ws := wsX4_endsKeeper) B.pre
  have hown : s.vm.findClass RX4 = some m.cls := findClass_of_methodNamed B.named
  have hlocks := B.notSynchronized
  subst hsz
  have hD := hD0.self (sz := s.heap.size)
  generalize hAe : va_A [(pg, .inr (4, [.ref apl, .int (nI P), .int vb]))] s.heap.size = A at hD ⊢
  have hA : ∀ q : Nat, s.heap.size ≤ q → A q := fun q h => by rw [← hAe]; exact Or.inr h
  have hS : va_S A s.heap s.heap [] := va_S.rf
  have hP : va_P D vwCl [(pg, .inr (4, [.ref apl, .int (nI P), .int vb]))] s.heap := hP
  have hD : va_D A [(pg, .inr (4, [.ref apl, .int (nI P), .int vb]))] := hD
  have hl := lv_entry ([.ref pg, .int (nI i), .int c0]) (n := 4) (Nat.le_of_ble_eq_true rfl)
  rw [lg_entry_eq]
  generalize (lg_sl ([.ref pg, .int (nI i), .int c0]) ++ List.replicate (4 - (lg_sl ([.ref pg, .int (nI i), .int c0])).length) Slot.unset).toArray = ls at hl ⊢
  have hl : lv_has ls 4 [(0, .ref pg), (1, .int (nI i)), (2, .int c0)] := hl
  have hinX4 : ∀ w ∈ wsX40, w ∈ wsX4_endsKeeper := fun w h => List.mem_cons_of_mem _ (List.mem_append_right _ h)
  have k_0 := hts (.fieldLink RX4 15 "VowDoves$Page" "vowsBegin" "I") (by decide +kernel)
  refine lv_iload_n hx hb dX4_endsKeeper_0 rfl (lv_at hl 1 rfl) ?_
  refine lv_iconst (v := 3) hx hb dX4_endsKeeper_1 (by decide) ?_
  refine z_idivN hx hb (a := i) (b := 3) rfl rfl (by omega) (by omega) (by omega) dX4_endsKeeper_2 ?_
  refine lv_iconst (v := 1) hx hb dX4_endsKeeper_3 (by decide) ?_
  refine z_iaddN hx hb (a := i / 3) (b := 1) rfl rfl dX4_endsKeeper_4 ?_
  refine lv_istore_n (lv' := [(3, .int (nI ((i / 3) + 1))), (0, .ref pg), (1, .int (nI i)), (2, .int c0)]) hx hb dX4_endsKeeper_5 rfl hl (by decide) rfl (fun ls hl => ?_)
  refine lv_iload_n hx hb dX4_endsKeeper_6 rfl (lv_at hl 3 rfl) ?_
  refine lv_bipush (v := 59) hx hb dX4_endsKeeper_7 (by decide) ?_
  refine lv_icmp_ne (tgt := 26) hx hb dX4_endsKeeper_9 (by decide) (fun c_9 => ?_) (fun c_9 => ?_)
  · refine lv_iload_n hx hb dX4_endsKeeper_26 rfl (lv_at hl 3 rfl) ?_
    refine lv_bipush (v := 44) hx hb dX4_endsKeeper_27 (by decide) ?_
    refine lv_icmp_ne (tgt := 41) hx hb dX4_endsKeeper_29 (by decide) (fun c_29 => ?_) (fun c_29 => ?_)
    · refine lv_iconst (v := 0) hx hb dX4_endsKeeper_41 (by decide) ?_
      have e9 : (eR i c0 vb) = (0, vb) := (by unfold eR zb; grind)
      have hP9 := hP.sub (ws' := [(pg, .inr (4, [.ref apl, .int (nI P), .int ((eR i c0 vb).2)]))]) [0] (by rw [e9]; try rfl)
      have hD9 := hD.sub (ws' := [(pg, .inr (4, [.ref apl, .int (nI P), .int ((eR i c0 vb).2)]))]) [0] (by decide) (by rw [e9]; try rfl)
      exact W.zret (v := 0) hx hb hr rfl (fun t ht hW => ⟨⟨0, (), rfl, (by rw [e9]; try rfl), by rw [ht]; exact hP9, hD9⟩, hS.F ht⟩) hS.2.2 dX4_endsKeeper_42
    · refine lv_iload_n hx hb dX4_endsKeeper_32 rfl (lv_at hl 0 rfl) ?_
      refine lv_iconst (v := 5) hx hb dX4_endsKeeper_33 (by decide) ?_
      refine lv_icmp_ge (tgt := 41) hx hb dX4_endsKeeper_34 (by decide) (fun c_34 => ?_) (fun c_34 => ?_)
      · have n_34 := zn_le (a := 5) (b := (i / 3) + 1) rfl rfl c_34 (by omega) (by omega)
        refine lv_iconst (v := 0) hx hb dX4_endsKeeper_41 (by decide) ?_
        have e9 : (eR i c0 vb) = (0, vb) := (by unfold eR zb; grind)
        have hP9 := hP.sub (ws' := [(pg, .inr (4, [.ref apl, .int (nI P), .int ((eR i c0 vb).2)]))]) [0] (by rw [e9]; try rfl)
        have hD9 := hD.sub (ws' := [(pg, .inr (4, [.ref apl, .int (nI P), .int ((eR i c0 vb).2)]))]) [0] (by decide) (by rw [e9]; try rfl)
        exact W.zret (v := 0) hx hb hr rfl (fun t ht hW => ⟨⟨0, (), rfl, (by rw [e9]; try rfl), by rw [ht]; exact hP9, hD9⟩, hS.F ht⟩) hS.2.2 dX4_endsKeeper_42
      · have n_34 := zn_nle (a := 5) (b := (i / 3) + 1) rfl rfl c_34 (by omega) (by omega)
        refine lv_iconst (v := 1) hx hb dX4_endsKeeper_37 (by decide) ?_
        refine lv_goto (tgt := 42) hx hb dX4_endsKeeper_38 (by decide) ?_
        have e9 : (eR i c0 vb) = (1, vb) := (by unfold eR zb; grind)
        have hP9 := hP.sub (ws' := [(pg, .inr (4, [.ref apl, .int (nI P), .int ((eR i c0 vb).2)]))]) [0] (by rw [e9]; try rfl)
        have hD9 := hD.sub (ws' := [(pg, .inr (4, [.ref apl, .int (nI P), .int ((eR i c0 vb).2)]))]) [0] (by decide) (by rw [e9]; try rfl)
        exact W.zret (v := 1) hx hb hr rfl (fun t ht hW => ⟨⟨1, (), rfl, (by rw [e9]; try rfl), by rw [ht]; exact hP9, hD9⟩, hS.F ht⟩) hS.2.2 dX4_endsKeeper_42
  · refine lv_iload_n hx hb dX4_endsKeeper_12 rfl (lv_at hl 0 rfl) ?_
    refine lv_iconst (v := 2) hx hb dX4_endsKeeper_13 (by decide) ?_
    refine lv_icmp_lt (tgt := 26) hx hb dX4_endsKeeper_14 (by decide) (fun c_14 => ?_) (fun c_14 => ?_)
    · have n_14 := zn_lt (a := (i / 3) + 1) (b := 2) rfl rfl c_14 (by omega) (by omega)
      refine lv_iload_n hx hb dX4_endsKeeper_26 rfl (lv_at hl 3 rfl) ?_
      refine lv_bipush (v := 44) hx hb dX4_endsKeeper_27 (by decide) ?_
      refine lv_icmp_ne (tgt := 41) hx hb dX4_endsKeeper_29 (by decide) (fun c_29 => ?_) (fun c_29 => ?_)
      · refine lv_iconst (v := 0) hx hb dX4_endsKeeper_41 (by decide) ?_
        have e9 : (eR i c0 vb) = (0, vb) := (by unfold eR zb; grind)
        have hP9 := hP.sub (ws' := [(pg, .inr (4, [.ref apl, .int (nI P), .int ((eR i c0 vb).2)]))]) [0] (by rw [e9]; try rfl)
        have hD9 := hD.sub (ws' := [(pg, .inr (4, [.ref apl, .int (nI P), .int ((eR i c0 vb).2)]))]) [0] (by decide) (by rw [e9]; try rfl)
        exact W.zret (v := 0) hx hb hr rfl (fun t ht hW => ⟨⟨0, (), rfl, (by rw [e9]; try rfl), by rw [ht]; exact hP9, hD9⟩, hS.F ht⟩) hS.2.2 dX4_endsKeeper_42
      · refine lv_iload_n hx hb dX4_endsKeeper_32 rfl (lv_at hl 0 rfl) ?_
        refine lv_iconst (v := 5) hx hb dX4_endsKeeper_33 (by decide) ?_
        refine lv_icmp_ge (tgt := 41) hx hb dX4_endsKeeper_34 (by decide) (fun c_34 => ?_) (fun c_34 => ?_)
        · have n_34 := zn_le (a := 5) (b := (i / 3) + 1) rfl rfl c_34 (by omega) (by omega)
          refine lv_iconst (v := 0) hx hb dX4_endsKeeper_41 (by decide) ?_
          have e9 : (eR i c0 vb) = (0, vb) := (by unfold eR zb; grind)
          have hP9 := hP.sub (ws' := [(pg, .inr (4, [.ref apl, .int (nI P), .int ((eR i c0 vb).2)]))]) [0] (by rw [e9]; try rfl)
          have hD9 := hD.sub (ws' := [(pg, .inr (4, [.ref apl, .int (nI P), .int ((eR i c0 vb).2)]))]) [0] (by decide) (by rw [e9]; try rfl)
          exact W.zret (v := 0) hx hb hr rfl (fun t ht hW => ⟨⟨0, (), rfl, (by rw [e9]; try rfl), by rw [ht]; exact hP9, hD9⟩, hS.F ht⟩) hS.2.2 dX4_endsKeeper_42
        · have n_34 := zn_nle (a := 5) (b := (i / 3) + 1) rfl rfl c_34 (by omega) (by omega)
          refine lv_iconst (v := 1) hx hb dX4_endsKeeper_37 (by decide) ?_
          refine lv_goto (tgt := 42) hx hb dX4_endsKeeper_38 (by decide) ?_
          have e9 : (eR i c0 vb) = (1, vb) := (by unfold eR zb; grind)
          have hP9 := hP.sub (ws' := [(pg, .inr (4, [.ref apl, .int (nI P), .int ((eR i c0 vb).2)]))]) [0] (by rw [e9]; try rfl)
          have hD9 := hD.sub (ws' := [(pg, .inr (4, [.ref apl, .int (nI P), .int ((eR i c0 vb).2)]))]) [0] (by decide) (by rw [e9]; try rfl)
          exact W.zret (v := 1) hx hb hr rfl (fun t ht hW => ⟨⟨1, (), rfl, (by rw [e9]; try rfl), by rw [ht]; exact hP9, hD9⟩, hS.F ht⟩) hS.2.2 dX4_endsKeeper_42
    · have n_14 := zn_nlt (a := (i / 3) + 1) (b := 2) rfl rfl c_14 (by omega) (by omega)
      refine lv_aload_n hx hb dX4_endsKeeper_17 rfl (lv_at hl 1 rfl) ?_
      refine lv_iload_n hx hb dX4_endsKeeper_18 rfl (lv_at hl 2 rfl) ?_
      refine lv_iconst (v := 1) hx hb dX4_endsKeeper_19 (by decide) ?_
      refine z_iaddN hx hb (a := i) (b := 1) rfl rfl dX4_endsKeeper_20 ?_
      refine va_put (D := D) (ci := 4) (v := .int (nI (i + 1))) (ty := .int) (C := RX4) (T := TX4) (N := 3) hx hb hts hinX4 tyX4 tyX4_ok nmX4 hown hE.1 hP hD hS 0 rfl rfl 2 (by decide) k_0 (fun _ h9 => h9) rfl (by decide +kernel) rfl rfl (Nat.le_of_ble_eq_true rfl) dX4_endsKeeper_21 (fun H locs hP hD hS => ?_)
      have hP : va_P D vwCl [(pg, .inr (4, [.ref apl, .int (nI P), .int (nI (i + 1))]))] H := hP
      have hD : va_D A [(pg, .inr (4, [.ref apl, .int (nI P), .int (nI (i + 1))]))] := hD
      refine lv_iconst (v := 1) hx hb dX4_endsKeeper_24 (by decide) ?_
      have e9 : (eR i c0 vb) = (1, nI (i + 1)) := (by unfold eR zb; grind)
      have hP9 := hP.sub (ws' := [(pg, .inr (4, [.ref apl, .int (nI P), .int ((eR i c0 vb).2)]))]) [0] (by rw [e9]; try rfl)
      have hD9 := hD.sub (ws' := [(pg, .inr (4, [.ref apl, .int (nI P), .int ((eR i c0 vb).2)]))]) [0] (by decide) (by rw [e9]; try rfl)
      exact W.zret (v := 1) hx hb hr rfl (fun t ht hW => ⟨⟨1, (), rfl, (by rw [e9]; try rfl), by rw [ht]; exact hP9, hD9⟩, hS.F ht⟩) hS.2.2 dX4_endsKeeper_25

set_option maxHeartbeats 1000000 in
set_option maxRecDepth 100000 in
theorem c_X4_fits (l : Launch) (D : va_G) (cI cZ cA : ClassId) (sz : Nat) (pg : Nat) (apl : Nat) (P : Nat) (vb : Int32) (pgf : Nat → Int32) (i : Nat) (aK : Nat) (aV : Nat) (hi : i < 22) : Met l yX4_fits wsX4_fits (zr 5) (va_Pc [.ref pg, .int (nI i)] (zPs D cI cZ cA [(pg, .inr (4, [.ref apl, .int (nI P), .int vb])), (apl, .inl (cI, 22, .inl pgf))] sz aK aV)) (va_Qi (fun (r : Int32) (_ : Unit) => r = (fR pgf vb i, fE pgf vb i).1) (zB D [(pg, .inr (4, [.ref apl, .int (nI P), .int ((fR pgf vb i, fE pgf vb i).2)])), (apl, .inl (cI, 22, .inl pgf))] (va_A [(pg, .inr (4, [.ref apl, .int (nI P), .int vb])), (apl, .inl (cI, 22, .inl pgf))] sz)) (va_A [(pg, .inr (4, [.ref apl, .int (nI P), .int vb])), (apl, .inl (cI, 22, .inl pgf))] sz)) 0 0 (va_A [(pg, .inr (4, [.ref apl, .int (nI P), .int vb])), (apl, .inl (cI, 22, .inl pgf))] sz) := by
  refine Met.ofW (cc := cX4_fits) (maxL := 3) (ret := (some .boolean)) (by decide) rfl ?_
  intro p e s m args below meth c s₁ B hml hv
  obtain ⟨rfl, ⟨hsz, hP, hD0, hE⟩, hST⟩ := hv
  have hx := B.exec
  have hb := B.bytes
  have hr := B.returns
  have hts := atoms_spec (ws := wsX4_fits) B.pre
  have hown : s.vm.findClass RX4 = some m.cls := findClass_of_methodNamed B.named
  have hlocks := B.notSynchronized
  subst hsz
  have hD := hD0.self (sz := s.heap.size)
  generalize hAe : va_A [(pg, .inr (4, [.ref apl, .int (nI P), .int vb])), (apl, .inl (cI, 22, .inl pgf))] s.heap.size = A at hD hST ⊢
  have hA : ∀ q : Nat, s.heap.size ≤ q → A q := fun q h => by rw [← hAe]; exact Or.inr h
  have hS : va_S A s.heap s.heap [] := va_S.rf
  have hP : va_P D vwCl [(pg, .inr (4, [.ref apl, .int (nI P), .int vb])), (apl, .inl (cI, 22, .inl pgf))] s.heap := hP
  have hD : va_D A [(pg, .inr (4, [.ref apl, .int (nI P), .int vb])), (apl, .inl (cI, 22, .inl pgf))] := hD
  have hl := lv_entry ([.ref pg, .int (nI i)]) (n := 3) (Nat.le_of_ble_eq_true rfl)
  rw [lg_entry_eq]
  generalize (lg_sl ([.ref pg, .int (nI i)]) ++ List.replicate (3 - (lg_sl ([.ref pg, .int (nI i)])).length) Slot.unset).toArray = ls at hl ⊢
  have hl : lv_has ls 3 [(0, .ref pg), (1, .int (nI i))] := hl
  have hinX4 : ∀ w ∈ wsX40, w ∈ wsX4_fits := fun w h => List.mem_cons_of_mem _ (List.mem_append_right _ h)
  have k_0 := hts (.fieldLink RX4 9 "VowDoves$Page" "letters" "[I") (by decide +kernel)
  have k_1 := hts (.fieldLink RX4 15 "VowDoves$Page" "vowsBegin" "I") (by decide +kernel)
  refine lv_aload_n hx hb dX4_fits_0 rfl (lv_at hl 0 rfl) ?_
  refine va_get (D := D) (ci := 4) (v := .ref apl) (C := RX4) (T := TX4) (N := 3) hx hb hts hinX4 hown hE.1 hP 0 rfl rfl 0 (by decide) k_0 (fun _ h9 => h9) rfl dX4_fits_1 ?_
  refine lv_iload_n hx hb dX4_fits_4 rfl (lv_at hl 1 rfl) ?_
  refine z_iald hx hb hE hP 1 rfl (j := i) rfl (by omega) (by decide) dX4_fits_5 ?_
  refine lv_istore_n (lv' := [(2, .int (pgf i)), (0, .ref pg), (1, .int (nI i))]) hx hb dX4_fits_6 rfl hl (by decide) rfl (fun ls hl => ?_)
  refine lv_aload_n hx hb dX4_fits_7 rfl (lv_at hl 1 rfl) ?_
  refine va_get (D := D) (ci := 4) (v := .int vb) (C := RX4) (T := TX4) (N := 3) hx hb hts hinX4 hown hE.1 hP 0 rfl rfl 2 (by decide) k_1 (fun _ h9 => h9) rfl dX4_fits_8 ?_
  refine lv_if_le (tgt := 37) hx hb dX4_fits_11 (by decide) (fun c_11 => ?_) (fun c_11 => ?_)
  · refine lv_iload_n hx hb dX4_fits_37 rfl (lv_at hl 2 rfl) ?_
    refine lv_iconst (v := 3) hx hb dX4_fits_38 (by decide) ?_
    refine z_iremN hx hb (a := i) (b := 3) rfl rfl (by omega) (by omega) (by omega) dX4_fits_39 ?_
    by_cases c_40_0 : i % 3 = 0
    · refine lv_lookup (tgt := 68) hx hb dX4_fits_40 (by decide) (by rw [c_40_0]; try rfl) (by decide) ?_
      refine va_ldcS hx hb hown hST.2.1 dX4_fits_68 ?_
      refine lv_iload_n hx hb dX4_fits_70 rfl (lv_at hl 0 rfl) ?_
      refine lv_i2c (v := ((pgf i : Int32).toUInt32 % 65536).toInt32) hx hb dX4_fits_71 rfl ?_
      refine z_soVi (As := [.int (i2 (pgf i))]) (rest := []) ⟨hx, hb, hml, hown, hts⟩ (c_J0_indexOf_0f7a4 l D cI cZ cA aK aV (i2 (pgf i)) ) (cwV 1 hts gX4_fits_J0_indexOf_0f7a4 rfl rfl rfl (by decide +kernel) ⟨Nat.le_of_ble_eq_true rfl, Nat.le_of_ble_eq_true rfl⟩) hST.1 hS rfl hl.1 rfl (Nat.le_of_ble_eq_true rfl) dX4_fits_72 ⟨Nat.zero_le _, Nat.zero_le _⟩ ?_
      refine lv_if_lt (tgt := 82) hx hb dX4_fits_75 (by decide) (fun c_75 => ?_) (fun c_75 => ?_)
      · refine lv_iconst (v := 0) hx hb dX4_fits_82 (by decide) ?_
        have e9 : (fR pgf vb i, fE pgf vb i) = (0, vb) := (by unfold fR fE zb; grind)
        have hP9 := hP.sub (ws' := [(pg, .inr (4, [.ref apl, .int (nI P), .int ((fR pgf vb i, fE pgf vb i).2)])), (apl, .inl (cI, 22, .inl pgf))]) [0, 1] (by rw [e9]; try rfl)
        have hD9 := hD.sub (ws' := [(pg, .inr (4, [.ref apl, .int (nI P), .int ((fR pgf vb i, fE pgf vb i).2)])), (apl, .inl (cI, 22, .inl pgf))]) [0, 1] (by decide) (by rw [e9]; try rfl)
        exact W.zret (v := 0) hx hb hr rfl (fun t ht hW => ⟨⟨0, (), rfl, (by rw [e9]; try rfl), by rw [ht]; exact hP9, hD9⟩, hS.F ht⟩) hS.2.2 dX4_fits_83
      · refine lv_iconst (v := 1) hx hb dX4_fits_78 (by decide) ?_
        refine lv_goto (tgt := 83) hx hb dX4_fits_79 (by decide) ?_
        have e9 : (fR pgf vb i, fE pgf vb i) = (1, vb) := (by unfold fR fE zb; grind)
        have hP9 := hP.sub (ws' := [(pg, .inr (4, [.ref apl, .int (nI P), .int ((fR pgf vb i, fE pgf vb i).2)])), (apl, .inl (cI, 22, .inl pgf))]) [0, 1] (by rw [e9]; try rfl)
        have hD9 := hD.sub (ws' := [(pg, .inr (4, [.ref apl, .int (nI P), .int ((fR pgf vb i, fE pgf vb i).2)])), (apl, .inl (cI, 22, .inl pgf))]) [0, 1] (by decide) (by rw [e9]; try rfl)
        exact W.zret (v := 1) hx hb hr rfl (fun t ht hW => ⟨⟨1, (), rfl, (by rw [e9]; try rfl), by rw [ht]; exact hP9, hD9⟩, hS.F ht⟩) hS.2.2 dX4_fits_83
    by_cases c_40_1 : i % 3 = 1
    · refine lv_lookup (tgt := 84) hx hb dX4_fits_40 (by decide) (by rw [c_40_1]; try rfl) (by decide) ?_
      refine lv_iload_n hx hb dX4_fits_84 rfl (lv_at hl 0 rfl) ?_
      refine z_roSi (As := [.int (pgf i)]) (rest := []) ⟨hx, hb, hml, hown, hts⟩ (c_X4_isDigit l D cI cZ cA (pgf i) ) (va_cwS 1 hts gX4_fits_X4_isDigit rfl rfl rfl (by decide +kernel) ⟨Nat.le_of_ble_eq_true rfl, Nat.le_of_ble_eq_true rfl⟩) hE hP [] rfl rfl hl.1 rfl (Nat.le_of_ble_eq_true rfl) dX4_fits_85 ⟨Nat.zero_le _, Nat.zero_le _⟩ ?_
      have e9 : (fR pgf vb i, fE pgf vb i) = ((zb (48 ≤ (pgf i) ∧ (pgf i) ≤ 57)), vb) := (by unfold fR fE zb; grind)
      have hP9 := hP.sub (ws' := [(pg, .inr (4, [.ref apl, .int (nI P), .int ((fR pgf vb i, fE pgf vb i).2)])), (apl, .inl (cI, 22, .inl pgf))]) [0, 1] (by rw [e9]; try rfl)
      have hD9 := hD.sub (ws' := [(pg, .inr (4, [.ref apl, .int (nI P), .int ((fR pgf vb i, fE pgf vb i).2)])), (apl, .inl (cI, 22, .inl pgf))]) [0, 1] (by decide) (by rw [e9]; try rfl)
      exact W.zret (v := (zb (48 ≤ (pgf i) ∧ (pgf i) ≤ 57))) hx hb hr zb_nar (fun t ht hW => ⟨⟨(zb (48 ≤ (pgf i) ∧ (pgf i) ≤ 57)), (), rfl, (by rw [e9]; try rfl), by rw [ht]; exact hP9, hD9⟩, hS.F ht⟩) hS.2.2 dX4_fits_88
    refine lv_lookup (tgt := 89) hx hb dX4_fits_40 (by decide) (by show Op.lookupswitch.offset [(0, 28), (1, 44)] 49 (nI (i % 3)).toInt = 49; rw [lv_osw (k := 0) (fun q => c_40_0 ((nI_eq (a := i % 3) (b := 0) (by omega) (by omega)).mp q)) (by decide), lv_osw (k := 1) (fun q => c_40_1 ((nI_eq (a := i % 3) (b := 1) (by omega) (by omega)).mp q)) (by decide)]; rfl) (by decide) ?_
    refine lv_aload_n hx hb dX4_fits_89 rfl (lv_at hl 1 rfl) ?_
    refine lv_iload_n hx hb dX4_fits_90 rfl (lv_at hl 2 rfl) ?_
    refine lv_iload_n hx hb dX4_fits_91 rfl (lv_at hl 0 rfl) ?_
    refine z_rwVi (As := [.int (nI i), .int (pgf i)]) (rest := []) (wr := [(apl, .inl (cI, 22, .inl pgf))]) (w1 := [(pg, .inr (4, [.ref apl, .int (nI P), .int ((eR i (pgf i) vb).2)]))]) ⟨hx, hb, hml, hown, hts⟩ (c_X4_endsKeeper l D cI cZ cA _ pg apl P vb i (pgf i) (by first | assumption | omega)) (cwV 2 hts gX4_fits_X4_endsKeeper rfl rfl rfl (by decide +kernel) ⟨Nat.le_of_ble_eq_true rfl, Nat.le_of_ble_eq_true rfl⟩) hE hP hD hS hA [0] [1] rfl rfl rfl (by decide) (by decide) (by decide) 0 4 rfl rfl rfl hl.1 rfl (Nat.le_of_ble_eq_true rfl) dX4_fits_92 ⟨Nat.zero_le _, Nat.zero_le _⟩ (fun H locs hP hD hS => ?_)
    have hP : va_P D vwCl [(apl, .inl (cI, 22, .inl pgf)), (pg, .inr (4, [.ref apl, .int (nI P), .int ((eR i (pgf i) vb).2)]))] H := hP
    have hD : va_D A [(apl, .inl (cI, 22, .inl pgf)), (pg, .inr (4, [.ref apl, .int (nI P), .int ((eR i (pgf i) vb).2)]))] := hD
    have e9 : (fR pgf vb i, fE pgf vb i) = (((eR i (pgf i) vb).1), (eR i (pgf i) vb).2) := (by unfold fR fE; rw [if_pos c_11, if_neg c_40_0, if_neg c_40_1, if_pos ⟨c_11, c_40_0, c_40_1⟩])
    have hP9 := hP.sub (ws' := [(pg, .inr (4, [.ref apl, .int (nI P), .int ((fR pgf vb i, fE pgf vb i).2)])), (apl, .inl (cI, 22, .inl pgf))]) [1, 0] (by rw [e9]; try rfl)
    have hD9 := hD.sub (ws' := [(pg, .inr (4, [.ref apl, .int (nI P), .int ((fR pgf vb i, fE pgf vb i).2)])), (apl, .inl (cI, 22, .inl pgf))]) [1, 0] (by decide) (by rw [e9]; try rfl)
    exact W.zret (v := ((eR i (pgf i) vb).1)) hx hb hr eR_nar (fun t ht hW => ⟨⟨((eR i (pgf i) vb).1), (), rfl, (by rw [e9]; try rfl), by rw [ht]; exact hP9, hD9⟩, hS.F ht⟩) hS.2.2 dX4_fits_95
  · refine lv_iload_n hx hb dX4_fits_14 rfl (lv_at hl 0 rfl) ?_
    refine z_roSi (As := [.int (pgf i)]) (rest := []) ⟨hx, hb, hml, hown, hts⟩ (c_X4_isDigit l D cI cZ cA (pgf i) ) (va_cwS 1 hts gX4_fits_X4_isDigit rfl rfl rfl (by decide +kernel) ⟨Nat.le_of_ble_eq_true rfl, Nat.le_of_ble_eq_true rfl⟩) hE hP [] rfl rfl hl.1 rfl (Nat.le_of_ble_eq_true rfl) dX4_fits_15 ⟨Nat.zero_le _, Nat.zero_le _⟩ ?_
    refine lv_if_eq (tgt := 35) hx hb dX4_fits_18 (by decide) (fun c_18 => ?_) (fun c_18 => ?_)
    · have c_18 := zb_0 c_18
      refine lv_iconst (v := 0) hx hb dX4_fits_35 (by decide) ?_
      have e9 : (fR pgf vb i, fE pgf vb i) = (0, vb) := (by unfold fR fE zb; grind)
      have hP9 := hP.sub (ws' := [(pg, .inr (4, [.ref apl, .int (nI P), .int ((fR pgf vb i, fE pgf vb i).2)])), (apl, .inl (cI, 22, .inl pgf))]) [0, 1] (by rw [e9]; try rfl)
      have hD9 := hD.sub (ws' := [(pg, .inr (4, [.ref apl, .int (nI P), .int ((fR pgf vb i, fE pgf vb i).2)])), (apl, .inl (cI, 22, .inl pgf))]) [0, 1] (by decide) (by rw [e9]; try rfl)
      exact W.zret (v := 0) hx hb hr rfl (fun t ht hW => ⟨⟨0, (), rfl, (by rw [e9]; try rfl), by rw [ht]; exact hP9, hD9⟩, hS.F ht⟩) hS.2.2 dX4_fits_36
    · have c_18 := zb_1 c_18
      refine lv_iload_n hx hb dX4_fits_21 rfl (lv_at hl 2 rfl) ?_
      refine lv_aload_n hx hb dX4_fits_22 rfl (lv_at hl 1 rfl) ?_
      refine va_get (D := D) (ci := 4) (v := .int vb) (C := RX4) (T := TX4) (N := 3) hx hb hts hinX4 hown hE.1 hP 0 rfl rfl 2 (by decide) k_1 (fun _ h9 => h9) rfl dX4_fits_23 ?_
      refine lv_isub hx hb dX4_fits_26 ?_
      refine lv_iconst (v := 5) hx hb dX4_fits_27 (by decide) ?_
      refine lv_icmp_ge (tgt := 35) hx hb dX4_fits_28 (by decide) (fun c_28 => ?_) (fun c_28 => ?_)
      · have c_28 := Int32.not_lt.mpr c_28
        refine lv_iconst (v := 0) hx hb dX4_fits_35 (by decide) ?_
        have e9 : (fR pgf vb i, fE pgf vb i) = (0, vb) := (by unfold fR fE zb; grind)
        have hP9 := hP.sub (ws' := [(pg, .inr (4, [.ref apl, .int (nI P), .int ((fR pgf vb i, fE pgf vb i).2)])), (apl, .inl (cI, 22, .inl pgf))]) [0, 1] (by rw [e9]; try rfl)
        have hD9 := hD.sub (ws' := [(pg, .inr (4, [.ref apl, .int (nI P), .int ((fR pgf vb i, fE pgf vb i).2)])), (apl, .inl (cI, 22, .inl pgf))]) [0, 1] (by decide) (by rw [e9]; try rfl)
        exact W.zret (v := 0) hx hb hr rfl (fun t ht hW => ⟨⟨0, (), rfl, (by rw [e9]; try rfl), by rw [ht]; exact hP9, hD9⟩, hS.F ht⟩) hS.2.2 dX4_fits_36
      · have c_28 := Int32.not_le.mp c_28
        refine lv_iconst (v := 1) hx hb dX4_fits_31 (by decide) ?_
        refine lv_goto (tgt := 36) hx hb dX4_fits_32 (by decide) ?_
        have e9 : (fR pgf vb i, fE pgf vb i) = (1, vb) := (by unfold fR fE zb; grind)
        have hP9 := hP.sub (ws' := [(pg, .inr (4, [.ref apl, .int (nI P), .int ((fR pgf vb i, fE pgf vb i).2)])), (apl, .inl (cI, 22, .inl pgf))]) [0, 1] (by rw [e9]; try rfl)
        have hD9 := hD.sub (ws' := [(pg, .inr (4, [.ref apl, .int (nI P), .int ((fR pgf vb i, fE pgf vb i).2)])), (apl, .inl (cI, 22, .inl pgf))]) [0, 1] (by decide) (by rw [e9]; try rfl)
        exact W.zret (v := 1) hx hb hr rfl (fun t ht hW => ⟨⟨1, (), rfl, (by rw [e9]; try rfl), by rw [ht]; exact hP9, hD9⟩, hS.F ht⟩) hS.2.2 dX4_fits_36

set_option maxHeartbeats 1000000 in
set_option maxRecDepth 100000 in
theorem c_X4_scan (l : Launch) (D : va_G) (cI cZ cA : ClassId) (sz : Nat) (pg : Nat) (apl : Nat) (P : Nat) (vb : Int32) (pgf : Nat → Int32) (aK : Nat) (aV : Nat) (hP22 : P ≤ 22) : Met l yX4_scan wsX4_scan (zr 6) (va_Pc [.ref pg] (zPs D cI cZ cA [(pg, .inr (4, [.ref apl, .int (nI P), .int vb])), (apl, .inl (cI, 22, .inl pgf))] sz aK aV)) (va_Qi (fun (r : Int32) (_ : Unit) => r = nI (scC pgf P).1) (zB D [(pg, .inr (4, [.ref apl, .int (nI P), .int ((scC pgf P).2)])), (apl, .inl (cI, 22, .inl pgf))] (va_A [(pg, .inr (4, [.ref apl, .int (nI P), .int vb])), (apl, .inl (cI, 22, .inl pgf))] sz)) (va_A [(pg, .inr (4, [.ref apl, .int (nI P), .int vb])), (apl, .inl (cI, 22, .inl pgf))] sz)) 0 0 (va_A [(pg, .inr (4, [.ref apl, .int (nI P), .int vb])), (apl, .inl (cI, 22, .inl pgf))] sz) := by
  refine Met.ofW (cc := cX4_scan) (maxL := 2) (ret := (some .int)) (by decide) rfl ?_
  intro p e s m args below meth c s₁ B hml hv
  obtain ⟨rfl, ⟨hsz, hP, hD0, hE⟩, hST⟩ := hv
  have hx := B.exec
  have hb := B.bytes
  have hr := B.returns
  have hts := atoms_spec (ws := wsX4_scan) B.pre
  have hown : s.vm.findClass RX4 = some m.cls := findClass_of_methodNamed B.named
  have hlocks := B.notSynchronized
  subst hsz
  have hD := hD0.self (sz := s.heap.size)
  generalize hAe : va_A [(pg, .inr (4, [.ref apl, .int (nI P), .int vb])), (apl, .inl (cI, 22, .inl pgf))] s.heap.size = A at hD hST ⊢
  have hA : ∀ q : Nat, s.heap.size ≤ q → A q := fun q h => by rw [← hAe]; exact Or.inr h
  have hS : va_S A s.heap s.heap [] := va_S.rf
  have hP : va_P D vwCl [(pg, .inr (4, [.ref apl, .int (nI P), .int vb])), (apl, .inl (cI, 22, .inl pgf))] s.heap := hP
  have hD : va_D A [(pg, .inr (4, [.ref apl, .int (nI P), .int vb])), (apl, .inl (cI, 22, .inl pgf))] := hD
  have hl := lv_entry ([.ref pg]) (n := 2) (Nat.le_of_ble_eq_true rfl)
  rw [lg_entry_eq]
  generalize (lg_sl ([.ref pg]) ++ List.replicate (2 - (lg_sl ([.ref pg])).length) Slot.unset).toArray = ls at hl ⊢
  have hl : lv_has ls 2 [(0, .ref pg)] := hl
  have hinX4 : ∀ w ∈ wsX40, w ∈ wsX4_scan := fun w h => List.mem_cons_of_mem _ (List.mem_append_right _ h)
  have k_0 := hts (.fieldLink RX4 15 "VowDoves$Page" "vowsBegin" "I") (by decide +kernel)
  have k_1 := hts (.fieldLink RX4 19 "VowDoves$Page" "size" "I") (by decide +kernel)
  refine lv_aload_n hx hb dX4_scan_0 rfl (lv_at hl 0 rfl) ?_
  refine lv_iconst (v := 0) hx hb dX4_scan_1 (by decide) ?_
  refine va_put (D := D) (ci := 4) (v := .int 0) (ty := .int) (C := RX4) (T := TX4) (N := 3) hx hb hts hinX4 tyX4 tyX4_ok nmX4 hown hE.1 hP hD hS 0 rfl rfl 2 (by decide) k_0 (fun _ h9 => h9) rfl (by decide +kernel) rfl rfl (Nat.le_of_ble_eq_true rfl) dX4_scan_2 (fun H locs hP hD hS => ?_)
  have hP : va_P D vwCl [(pg, .inr (4, [.ref apl, .int (nI P), .int 0])), (apl, .inl (cI, 22, .inl pgf))] H := hP
  have hD : va_D A [(pg, .inr (4, [.ref apl, .int (nI P), .int 0])), (apl, .inl (cI, 22, .inl pgf))] := hD
  refine lv_iconst (v := 0) hx hb dX4_scan_5 (by decide) ?_
  refine lv_istore_n (lv' := [(1, .int 0), (0, .ref pg)]) hx hb dX4_scan_6 rfl hl (by decide) rfl (fun ls hl => ?_)
  have hc7_1 : ∀ (n : Nat) (i : Nat) (e0 : Int32), (i ≤ P) → (scF (fR pgf) (fE pgf) (P - i) i e0 = scC pgf P) → (P + 1 ≤ i + n) → ∀ (w1 : Int32), w1 = nI i → ∀ (H : Heap) (locs : List Loc), va_P D vwCl [(pg, .inr (4, [.ref apl, .int (nI P), .int e0])), (apl, .inl (cI, 22, .inl pgf))] H → va_D A [(pg, .inr (4, [.ref apl, .int (nI P), .int e0])), (apl, .inl (cI, 22, .inl pgf))] → va_S A s.heap H locs → ∀ (ls : Array Slot), lv_has ls 2 [(1, .int w1), (0, .ref pg)] → W p l e (headSpec wsX4_scan (zr 6)).room s m ([.ref pg] : List Value).toArray below meth c H locs 0 0 (MQ below (va_Qi (fun (r : Int32) (_ : Unit) => r = nI (scC pgf P).1) (zB D [(pg, .inr (4, [.ref apl, .int (nI P), .int ((scC pgf P).2)])), (apl, .inl (cI, 22, .inl pgf))] A) A) ([.ref pg] : List Value).toArray s 0 0 A) (F0 m 7 ls []) := by
    intro n
    induction n with
    | zero => intro i e0 hi hs hfu; exact absurd hfu (by omega)
    | succ n ihhc7_1 =>
      intro i e0 hi hs hfu w1 ew1 H locs hP hD hS ls hl
      subst ew1
      refine lv_iload_n hx hb dX4_scan_7 rfl (lv_at hl 0 rfl) ?_
      refine lv_aload_n hx hb dX4_scan_8 rfl (lv_at hl 1 rfl) ?_
      refine va_get (D := D) (ci := 4) (v := .int (nI P)) (C := RX4) (T := TX4) (N := 3) hx hb hts hinX4 hown hE.1 hP 0 rfl rfl 1 (by decide) k_1 (fun _ h9 => h9) rfl dX4_scan_9 ?_
      refine lv_icmp_ge (tgt := 31) hx hb dX4_scan_12 (by decide) (fun c_12 => ?_) (fun c_12 => ?_)
      · have n_12 := zn_le (a := P) (b := i) rfl rfl c_12 (by omega) (by omega)
        have e8 : scC pgf P = (i, e0) := by
          rw [← hs, show P - i = 0 by omega]
          rfl
        have eiP : P = i := by omega
        refine lv_aload_n hx hb dX4_scan_31 rfl (lv_at hl 1 rfl) ?_
        refine va_get (D := D) (ci := 4) (v := .int (nI P)) (C := RX4) (T := TX4) (N := 3) hx hb hts hinX4 hown hE.1 hP 0 rfl rfl 1 (by decide) k_1 (fun _ h9 => h9) rfl dX4_scan_32 ?_
        have hP9 := hP.sub (ws' := [(pg, .inr (4, [.ref apl, .int (nI P), .int ((scC pgf P).2)])), (apl, .inl (cI, 22, .inl pgf))]) [0, 1] (by rw [e8]; try rfl)
        have hD9 := hD.sub (ws' := [(pg, .inr (4, [.ref apl, .int (nI P), .int ((scC pgf P).2)])), (apl, .inl (cI, 22, .inl pgf))]) [0, 1] (by decide) (by rw [e8]; try rfl)
        exact W.iret (v := nI P) hx hb hr (fun t ht hW => ⟨⟨(nI P), (), rfl, (by rw [e8, eiP]), by rw [ht]; exact hP9, hD9⟩, hS.F ht⟩) hS.2.2 dX4_scan_35
      · have n_12 := zn_nle (a := P) (b := i) rfl rfl c_12 (by omega) (by omega)
        refine lv_aload_n hx hb dX4_scan_15 rfl (lv_at hl 1 rfl) ?_
        refine lv_iload_n hx hb dX4_scan_16 rfl (lv_at hl 0 rfl) ?_
        refine z_rsVi (As := [.int (nI i)]) (rest := []) (wr := []) (w1 := [(pg, .inr (4, [.ref apl, .int (nI P), .int ((fR pgf e0 i, fE pgf e0 i).2)])), (apl, .inl (cI, 22, .inl pgf))]) ⟨hx, hb, hml, hown, hts⟩ (c_X4_fits l D cI cZ cA _ pg apl P e0 pgf i aK aV (by first | assumption | omega)) (cwV 1 hts gX4_scan_X4_fits rfl rfl rfl (by decide +kernel) ⟨Nat.le_of_ble_eq_true rfl, Nat.le_of_ble_eq_true rfl⟩) hE hST hP hD hS hA [0, 1] [] rfl rfl rfl (by decide) (by decide) (by decide) 0 4 rfl rfl rfl hl.1 rfl (Nat.le_of_ble_eq_true rfl) dX4_scan_17 ⟨Nat.zero_le _, Nat.zero_le _⟩ (fun H locs hP hD hS => ?_)
        have hP : va_P D vwCl [(pg, .inr (4, [.ref apl, .int (nI P), .int ((fR pgf e0 i, fE pgf e0 i).2)])), (apl, .inl (cI, 22, .inl pgf))] H := hP
        have hD : va_D A [(pg, .inr (4, [.ref apl, .int (nI P), .int ((fR pgf e0 i, fE pgf e0 i).2)])), (apl, .inl (cI, 22, .inl pgf))] := hD
        refine lv_if_ne (tgt := 25) hx hb dX4_scan_20 (by decide) (fun c_20 => ?_) (fun c_20 => ?_)
        · have hs2 : scF (fR pgf) (fE pgf) (P - (i + 1)) (i + 1) (fE pgf e0 i) = scC pgf P := by
            rw [← hs, show P - i = (P - (i + 1)) + 1 by omega, scF, if_neg c_20]
          refine lv_iinc (v := nI (i + 1)) (lv' := [(1, .int (nI (i + 1))), (0, .ref pg)]) hx hb dX4_scan_25 hl (k := 0) rfl (nI_add i 1) (by decide) rfl (fun ls hl => ?_)
          refine lv_goto (tgt := 7) hx hb dX4_scan_28 (by decide) ?_
          exact ihhc7_1 (i + 1) (fE pgf e0 i) (by omega) hs2 (by omega) (nI (i + 1)) rfl _ _ (hP.sub [0, 1] rfl) (hD.sub [0, 1] (by decide) rfl) hS ls (lv_sub hl [0, 1] rfl)
        · have e8 : scC pgf P = (i, fE pgf e0 i) := by
            rw [← hs, show P - i = (P - (i + 1)) + 1 by omega, scF, if_pos c_20]
          refine lv_iload_n hx hb dX4_scan_23 rfl (lv_at hl 0 rfl) ?_
          have hP9 := hP.sub (ws' := [(pg, .inr (4, [.ref apl, .int (nI P), .int ((scC pgf P).2)])), (apl, .inl (cI, 22, .inl pgf))]) [0, 1] (by rw [e8]; try rfl)
          have hD9 := hD.sub (ws' := [(pg, .inr (4, [.ref apl, .int (nI P), .int ((scC pgf P).2)])), (apl, .inl (cI, 22, .inl pgf))]) [0, 1] (by decide) (by rw [e8]; try rfl)
          exact W.iret (v := nI i) hx hb hr (fun t ht hW => ⟨⟨(nI i), (), rfl, (by rw [e8]; try rfl), by rw [ht]; exact hP9, hD9⟩, hS.F ht⟩) hS.2.2 dX4_scan_24
  exact hc7_1 (P + 1) 0 0 (by omega) rfl (by omega) 0 rfl _ _ (hP.sub [0, 1] rfl) (hD.sub [0, 1] (by decide) rfl) hS ls (lv_sub hl [0, 1] rfl)

set_option maxHeartbeats 1000000 in
set_option maxRecDepth 100000 in
theorem c_X4_isTower (l : Launch) (D : va_G) (cI cZ cA : ClassId) (sz : Nat) (pg : Nat) (apl : Nat) (P : Nat) (vb : Int32) (pgf : Nat → Int32) (aK : Nat) (aV : Nat) (hP22 : P ≤ 22) : Met l yX4_isTower wsX4_isTower (zr 7) (va_Pc [.ref pg] (zPs D cI cZ cA [(pg, .inr (4, [.ref apl, .int (nI P), .int vb])), (apl, .inl (cI, 22, .inl pgf))] sz aK aV)) (va_Qi (fun (r : Int32) (_ : Unit) => r = zb ((scC pgf P).1 = P ∧ 0 < (scC pgf P).2 ∧ 2 ≤ nI P - (scC pgf P).2)) (zB D [(pg, .inr (4, [.ref apl, .int (nI P), .int ((scC pgf P).2)])), (apl, .inl (cI, 22, .inl pgf))] (va_A [(pg, .inr (4, [.ref apl, .int (nI P), .int vb])), (apl, .inl (cI, 22, .inl pgf))] sz)) (va_A [(pg, .inr (4, [.ref apl, .int (nI P), .int vb])), (apl, .inl (cI, 22, .inl pgf))] sz)) 0 0 (va_A [(pg, .inr (4, [.ref apl, .int (nI P), .int vb])), (apl, .inl (cI, 22, .inl pgf))] sz) := by
  refine Met.ofW (cc := cX4_isTower) (maxL := 1) (ret := (some .boolean)) (by decide) rfl ?_
  intro p e s m args below meth c s₁ B hml hv
  obtain ⟨rfl, ⟨hsz, hP, hD0, hE⟩, hST⟩ := hv
  have hx := B.exec
  have hb := B.bytes
  have hr := B.returns
  have hts := atoms_spec (ws := wsX4_isTower) B.pre
  have hown : s.vm.findClass RX4 = some m.cls := findClass_of_methodNamed B.named
  have hlocks := B.notSynchronized
  subst hsz
  have hD := hD0.self (sz := s.heap.size)
  generalize hAe : va_A [(pg, .inr (4, [.ref apl, .int (nI P), .int vb])), (apl, .inl (cI, 22, .inl pgf))] s.heap.size = A at hD hST ⊢
  have hA : ∀ q : Nat, s.heap.size ≤ q → A q := fun q h => by rw [← hAe]; exact Or.inr h
  have hS : va_S A s.heap s.heap [] := va_S.rf
  have hP : va_P D vwCl [(pg, .inr (4, [.ref apl, .int (nI P), .int vb])), (apl, .inl (cI, 22, .inl pgf))] s.heap := hP
  have hD : va_D A [(pg, .inr (4, [.ref apl, .int (nI P), .int vb])), (apl, .inl (cI, 22, .inl pgf))] := hD
  have hl := lv_entry ([.ref pg]) (n := 1) (Nat.le_of_ble_eq_true rfl)
  rw [lg_entry_eq]
  generalize (lg_sl ([.ref pg]) ++ List.replicate (1 - (lg_sl ([.ref pg])).length) Slot.unset).toArray = ls at hl ⊢
  have hl : lv_has ls 1 [(0, .ref pg)] := hl
  have hinX4 : ∀ w ∈ wsX40, w ∈ wsX4_isTower := fun w h => List.mem_cons_of_mem _ (List.mem_append_right _ h)
  have k_0 := hts (.fieldLink RX4 19 "VowDoves$Page" "size" "I") (by decide +kernel)
  have k_1 := hts (.fieldLink RX4 15 "VowDoves$Page" "vowsBegin" "I") (by decide +kernel)
  refine lv_aload_n hx hb dX4_isTower_0 rfl (lv_at hl 0 rfl) ?_
  refine z_rsVi (As := []) (rest := []) (wr := []) (w1 := [(pg, .inr (4, [.ref apl, .int (nI P), .int ((scC pgf P).2)])), (apl, .inl (cI, 22, .inl pgf))]) ⟨hx, hb, hml, hown, hts⟩ (c_X4_scan l D cI cZ cA _ pg apl P vb pgf aK aV (by first | assumption | omega)) (cwV 0 hts gX4_isTower_X4_scan rfl rfl rfl (by decide +kernel) ⟨Nat.le_of_ble_eq_true rfl, Nat.le_of_ble_eq_true rfl⟩) hE hST hP hD hS hA [0, 1] [] rfl rfl rfl (by decide) (by decide) (by decide) 0 4 rfl rfl rfl hl.1 rfl (Nat.le_of_ble_eq_true rfl) dX4_isTower_1 ⟨Nat.zero_le _, Nat.zero_le _⟩ (fun H locs hP hD hS => ?_)
  have hP : va_P D vwCl [(pg, .inr (4, [.ref apl, .int (nI P), .int ((scC pgf P).2)])), (apl, .inl (cI, 22, .inl pgf))] H := hP
  have hD : va_D A [(pg, .inr (4, [.ref apl, .int (nI P), .int ((scC pgf P).2)])), (apl, .inl (cI, 22, .inl pgf))] := hD
  refine lv_aload_n hx hb dX4_isTower_4 rfl (lv_at hl 0 rfl) ?_
  refine va_get (D := D) (ci := 4) (v := .int (nI P)) (C := RX4) (T := TX4) (N := 3) hx hb hts hinX4 hown hE.1 hP 0 rfl rfl 1 (by decide) k_0 (fun _ h9 => h9) rfl dX4_isTower_5 ?_
  have hsl := scF_le (R := fR pgf) (E := fE pgf) P 0 0
  have hsl : (scC pgf P).1 ≤ P := by
    rw [Nat.zero_add] at hsl
    exact hsl
  refine lv_icmp_ne (tgt := 35) hx hb dX4_isTower_8 (by decide) (fun c_8 => ?_) (fun c_8 => ?_)
  · have n_8 := zn_ne (a := (scC pgf P).1) (b := P) rfl rfl c_8 (by omega) (by omega)
    refine lv_iconst (v := 0) hx hb dX4_isTower_35 (by decide) ?_
    have hP9 := hP.sub (ws' := [(pg, .inr (4, [.ref apl, .int (nI P), .int ((scC pgf P).2)])), (apl, .inl (cI, 22, .inl pgf))]) [0, 1] rfl
    have hD9 := hD.sub (ws' := [(pg, .inr (4, [.ref apl, .int (nI P), .int ((scC pgf P).2)])), (apl, .inl (cI, 22, .inl pgf))]) [0, 1] (by decide) rfl
    exact W.zret (v := 0) hx hb hr rfl (fun t ht hW => ⟨⟨0, (), rfl, (by unfold zb; grind), by rw [ht]; exact hP9, hD9⟩, hS.F ht⟩) hS.2.2 dX4_isTower_36
  · have n_8 := zn_eq (a := (scC pgf P).1) (b := P) rfl rfl c_8 (by omega) (by omega)
    refine lv_aload_n hx hb dX4_isTower_11 rfl (lv_at hl 0 rfl) ?_
    refine va_get (D := D) (ci := 4) (v := .int ((scC pgf P).2)) (C := RX4) (T := TX4) (N := 3) hx hb hts hinX4 hown hE.1 hP 0 rfl rfl 2 (by decide) k_1 (fun _ h9 => h9) rfl dX4_isTower_12 ?_
    refine lv_if_le (tgt := 35) hx hb dX4_isTower_15 (by decide) (fun c_15 => ?_) (fun c_15 => ?_)
    · have c_15 := Int32.not_lt.mpr c_15
      refine lv_iconst (v := 0) hx hb dX4_isTower_35 (by decide) ?_
      have hP9 := hP.sub (ws' := [(pg, .inr (4, [.ref apl, .int (nI P), .int ((scC pgf P).2)])), (apl, .inl (cI, 22, .inl pgf))]) [0, 1] rfl
      have hD9 := hD.sub (ws' := [(pg, .inr (4, [.ref apl, .int (nI P), .int ((scC pgf P).2)])), (apl, .inl (cI, 22, .inl pgf))]) [0, 1] (by decide) rfl
      exact W.zret (v := 0) hx hb hr rfl (fun t ht hW => ⟨⟨0, (), rfl, (by unfold zb; grind), by rw [ht]; exact hP9, hD9⟩, hS.F ht⟩) hS.2.2 dX4_isTower_36
    · have c_15 := Int32.not_le.mp c_15
      refine lv_aload_n hx hb dX4_isTower_18 rfl (lv_at hl 0 rfl) ?_
      refine va_get (D := D) (ci := 4) (v := .int (nI P)) (C := RX4) (T := TX4) (N := 3) hx hb hts hinX4 hown hE.1 hP 0 rfl rfl 1 (by decide) k_0 (fun _ h9 => h9) rfl dX4_isTower_19 ?_
      refine lv_aload_n hx hb dX4_isTower_22 rfl (lv_at hl 0 rfl) ?_
      refine va_get (D := D) (ci := 4) (v := .int ((scC pgf P).2)) (C := RX4) (T := TX4) (N := 3) hx hb hts hinX4 hown hE.1 hP 0 rfl rfl 2 (by decide) k_1 (fun _ h9 => h9) rfl dX4_isTower_23 ?_
      refine lv_isub hx hb dX4_isTower_26 ?_
      refine lv_iconst (v := 2) hx hb dX4_isTower_27 (by decide) ?_
      refine lv_icmp_lt (tgt := 35) hx hb dX4_isTower_28 (by decide) (fun c_28 => ?_) (fun c_28 => ?_)
      · have c_28 := Int32.not_le.mpr c_28
        refine lv_iconst (v := 0) hx hb dX4_isTower_35 (by decide) ?_
        have hP9 := hP.sub (ws' := [(pg, .inr (4, [.ref apl, .int (nI P), .int ((scC pgf P).2)])), (apl, .inl (cI, 22, .inl pgf))]) [0, 1] rfl
        have hD9 := hD.sub (ws' := [(pg, .inr (4, [.ref apl, .int (nI P), .int ((scC pgf P).2)])), (apl, .inl (cI, 22, .inl pgf))]) [0, 1] (by decide) rfl
        exact W.zret (v := 0) hx hb hr rfl (fun t ht hW => ⟨⟨0, (), rfl, (by unfold zb; grind), by rw [ht]; exact hP9, hD9⟩, hS.F ht⟩) hS.2.2 dX4_isTower_36
      · have c_28 := Int32.not_lt.mp c_28
        refine lv_iconst (v := 1) hx hb dX4_isTower_31 (by decide) ?_
        refine lv_goto (tgt := 36) hx hb dX4_isTower_32 (by decide) ?_
        have hP9 := hP.sub (ws' := [(pg, .inr (4, [.ref apl, .int (nI P), .int ((scC pgf P).2)])), (apl, .inl (cI, 22, .inl pgf))]) [0, 1] rfl
        have hD9 := hD.sub (ws' := [(pg, .inr (4, [.ref apl, .int (nI P), .int ((scC pgf P).2)])), (apl, .inl (cI, 22, .inl pgf))]) [0, 1] (by decide) rfl
        exact W.zret (v := 1) hx hb hr rfl (fun t ht hW => ⟨⟨1, (), rfl, (by unfold zb; grind), by rw [ht]; exact hP9, hD9⟩, hS.F ht⟩) hS.2.2 dX4_isTower_36

set_option maxHeartbeats 1000000 in
set_option maxRecDepth 100000 in
theorem c_X5_fault (l : Launch) (D : va_G) (cI cZ cA : ClassId) (sz : Nat) (vd : Nat) (pg : Nat) (co : Nat) (bk : Nat) (kb : Nat) (mt : Nat) (rn : Nat) (im : Int32) (tr : Int32) (apl : Nat) (P : Nat) (vb : Int32) (pgf : Nat → Int32) (aK : Nat) (aV : Nat) (hP22 : P ≤ 22) : Met l yX5_fault wsX5_fault (zr 7) (va_Pc [.ref vd] (zPs D cI cZ cA [(vd, .inr (5, [.ref pg, .ref co, .ref bk, .ref kb, .ref mt, .ref rn, .int im, .int tr])), (pg, .inr (4, [.ref apl, .int (nI P), .int vb])), (apl, .inl (cI, 22, .inl pgf))] sz aK aV)) (va_Qi (fun (r : Int32) (_ : Unit) => r = nI (scC pgf P).1) (zB D [(vd, .inr (5, [.ref pg, .ref co, .ref bk, .ref kb, .ref mt, .ref rn, .int im, .int tr])), (pg, .inr (4, [.ref apl, .int (nI P), .int ((scC pgf P).2)])), (apl, .inl (cI, 22, .inl pgf))] (va_A [(vd, .inr (5, [.ref pg, .ref co, .ref bk, .ref kb, .ref mt, .ref rn, .int im, .int tr])), (pg, .inr (4, [.ref apl, .int (nI P), .int vb])), (apl, .inl (cI, 22, .inl pgf))] sz)) (va_A [(vd, .inr (5, [.ref pg, .ref co, .ref bk, .ref kb, .ref mt, .ref rn, .int im, .int tr])), (pg, .inr (4, [.ref apl, .int (nI P), .int vb])), (apl, .inl (cI, 22, .inl pgf))] sz)) 0 0 (va_A [(vd, .inr (5, [.ref pg, .ref co, .ref bk, .ref kb, .ref mt, .ref rn, .int im, .int tr])), (pg, .inr (4, [.ref apl, .int (nI P), .int vb])), (apl, .inl (cI, 22, .inl pgf))] sz) := by
  refine Met.ofW (cc := cX5_fault) (maxL := 1) (ret := (some .int)) (by decide) rfl ?_
  intro p e s m args below meth c s₁ B hml hv
  obtain ⟨rfl, ⟨hsz, hP, hD0, hE⟩, hST⟩ := hv
  have hx := B.exec
  have hb := B.bytes
  have hr := B.returns
  have hts := atoms_spec (ws := wsX5_fault) B.pre
  have hown : s.vm.findClass RX5 = some m.cls := findClass_of_methodNamed B.named
  have hlocks := B.notSynchronized
  subst hsz
  have hD := hD0.self (sz := s.heap.size)
  generalize hAe : va_A [(vd, .inr (5, [.ref pg, .ref co, .ref bk, .ref kb, .ref mt, .ref rn, .int im, .int tr])), (pg, .inr (4, [.ref apl, .int (nI P), .int vb])), (apl, .inl (cI, 22, .inl pgf))] s.heap.size = A at hD hST ⊢
  have hA : ∀ q : Nat, s.heap.size ≤ q → A q := fun q h => by rw [← hAe]; exact Or.inr h
  have hS : va_S A s.heap s.heap [] := va_S.rf
  have hP : va_P D vwCl [(vd, .inr (5, [.ref pg, .ref co, .ref bk, .ref kb, .ref mt, .ref rn, .int im, .int tr])), (pg, .inr (4, [.ref apl, .int (nI P), .int vb])), (apl, .inl (cI, 22, .inl pgf))] s.heap := hP
  have hD : va_D A [(vd, .inr (5, [.ref pg, .ref co, .ref bk, .ref kb, .ref mt, .ref rn, .int im, .int tr])), (pg, .inr (4, [.ref apl, .int (nI P), .int vb])), (apl, .inl (cI, 22, .inl pgf))] := hD
  have hl := lv_entry ([.ref vd]) (n := 1) (Nat.le_of_ble_eq_true rfl)
  rw [lg_entry_eq]
  generalize (lg_sl ([.ref vd]) ++ List.replicate (1 - (lg_sl ([.ref vd])).length) Slot.unset).toArray = ls at hl ⊢
  have hl : lv_has ls 1 [(0, .ref vd)] := hl
  have hinX5 : ∀ w ∈ wsX50, w ∈ wsX5_fault := fun w h => List.mem_cons_of_mem _ (List.mem_append_left _ (List.mem_append_right _ h))
  have k_0 := hts (.fieldLink RX5 10 "VowDoves" "page" "LVowDoves$Page;") (by decide +kernel)
  refine lv_aload_n hx hb dX5_fault_0 rfl (lv_at hl 0 rfl) ?_
  refine va_get (D := D) (ci := 5) (v := .ref pg) (C := RX5) (T := TX5) (N := 8) hx hb hts hinX5 hown hE.1 hP 0 rfl rfl 0 (by decide) k_0 (fun _ h9 => h9) rfl dX5_fault_1 ?_
  refine z_rsVi (As := []) (rest := []) (wr := [(vd, .inr (5, [.ref pg, .ref co, .ref bk, .ref kb, .ref mt, .ref rn, .int im, .int tr]))]) (w1 := [(pg, .inr (4, [.ref apl, .int (nI P), .int ((scC pgf P).2)])), (apl, .inl (cI, 22, .inl pgf))]) ⟨hx, hb, hml, hown, hts⟩ (c_X4_scan l D cI cZ cA _ pg apl P vb pgf aK aV (by first | assumption | omega)) (cwV 0 hts gX5_fault_X4_scan rfl rfl rfl (by decide +kernel) ⟨Nat.le_of_ble_eq_true rfl, Nat.le_of_ble_eq_true rfl⟩) hE hST hP hD hS hA [1, 2] [0] rfl rfl rfl (by decide) (by decide) (by decide) 0 4 rfl rfl rfl hl.1 rfl (Nat.le_of_ble_eq_true rfl) dX5_fault_4 ⟨Nat.zero_le _, Nat.zero_le _⟩ (fun H locs hP hD hS => ?_)
  have hP : va_P D vwCl [(vd, .inr (5, [.ref pg, .ref co, .ref bk, .ref kb, .ref mt, .ref rn, .int im, .int tr])), (pg, .inr (4, [.ref apl, .int (nI P), .int ((scC pgf P).2)])), (apl, .inl (cI, 22, .inl pgf))] H := hP
  have hD : va_D A [(vd, .inr (5, [.ref pg, .ref co, .ref bk, .ref kb, .ref mt, .ref rn, .int im, .int tr])), (pg, .inr (4, [.ref apl, .int (nI P), .int ((scC pgf P).2)])), (apl, .inl (cI, 22, .inl pgf))] := hD
  have hP9 := hP.sub (ws' := [(vd, .inr (5, [.ref pg, .ref co, .ref bk, .ref kb, .ref mt, .ref rn, .int im, .int tr])), (pg, .inr (4, [.ref apl, .int (nI P), .int ((scC pgf P).2)])), (apl, .inl (cI, 22, .inl pgf))]) [0, 1, 2] rfl
  have hD9 := hD.sub (ws' := [(vd, .inr (5, [.ref pg, .ref co, .ref bk, .ref kb, .ref mt, .ref rn, .int im, .int tr])), (pg, .inr (4, [.ref apl, .int (nI P), .int ((scC pgf P).2)])), (apl, .inl (cI, 22, .inl pgf))]) [0, 1, 2] (by decide) rfl
  exact W.iret (v := nI (scC pgf P).1) hx hb hr (fun t ht hW => ⟨⟨(nI (scC pgf P).1), (), rfl, rfl, by rw [ht]; exact hP9, hD9⟩, hS.F ht⟩) hS.2.2 dX5_fault_7

set_option maxHeartbeats 1000000 in
set_option maxRecDepth 100000 in
theorem c_X2_readFrom (l : Launch) (D : va_G) (cI cZ cA : ClassId) (sz : Nat) (co : Nat) (akd : Nat) (afa : Nat) (ahd : Nat) (K : Nat) (Hn : Nat) (pg : Nat) (apl : Nat) (P : Nat) (V : Nat) (kd : Nat → Int32) (fa : Nat → Int32) (hd : Nat → Int32) (pgf : Nat → Int32) (aK : Nat) (aV : Nat) (hV3 : V % 3 = 0) (hV6 : 6 ≤ V) (hV15 : V ≤ 15) (hVP : V + 2 ≤ P) (hPV : P ≤ V + 5) (hP22 : P ≤ 22) : Met l yX2_readFrom wsX2_readFrom (zr 5) (va_Pc [.ref co, .ref pg] (zPs D cI cZ cA [(co, .inr (2, [.ref akd, .ref afa, .ref ahd, .int (nI K), .int (nI Hn)])), (akd, .inl (cI, 5, .inl kd)), (afa, .inl (cI, 5, .inl fa)), (ahd, .inl (cI, 5, .inl hd)), (pg, .inr (4, [.ref apl, .int (nI P), .int (nI V)])), (apl, .inl (cI, 22, .inl pgf))] sz aK aV)) (va_Qv (fun (_ : Unit) => True) (zB D [(co, .inr (2, [.ref akd, .ref afa, .ref ahd, .int (nI (V / 3)), .int (nI (P - V))])), (akd, .inl (cI, 5, .inl (cpN (rdK pgf) kd (V / 3)))), (afa, .inl (cI, 5, .inl (cpN (rdF pgf) fa (V / 3)))), (ahd, .inl (cI, 5, .inl (cpN (rdH pgf V) hd (P - V)))), (pg, .inr (4, [.ref apl, .int (nI P), .int (nI V)])), (apl, .inl (cI, 22, .inl pgf))] (va_A [(co, .inr (2, [.ref akd, .ref afa, .ref ahd, .int (nI K), .int (nI Hn)])), (akd, .inl (cI, 5, .inl kd)), (afa, .inl (cI, 5, .inl fa)), (ahd, .inl (cI, 5, .inl hd)), (pg, .inr (4, [.ref apl, .int (nI P), .int (nI V)])), (apl, .inl (cI, 22, .inl pgf))] sz)) (va_A [(co, .inr (2, [.ref akd, .ref afa, .ref ahd, .int (nI K), .int (nI Hn)])), (akd, .inl (cI, 5, .inl kd)), (afa, .inl (cI, 5, .inl fa)), (ahd, .inl (cI, 5, .inl hd)), (pg, .inr (4, [.ref apl, .int (nI P), .int (nI V)])), (apl, .inl (cI, 22, .inl pgf))] sz)) 0 0 (va_A [(co, .inr (2, [.ref akd, .ref afa, .ref ahd, .int (nI K), .int (nI Hn)])), (akd, .inl (cI, 5, .inl kd)), (afa, .inl (cI, 5, .inl fa)), (ahd, .inl (cI, 5, .inl hd)), (pg, .inr (4, [.ref apl, .int (nI P), .int (nI V)])), (apl, .inl (cI, 22, .inl pgf))] sz) := by
  refine Met.ofW (cc := cX2_readFrom) (maxL := 3) (ret := none) (by decide) rfl ?_
  intro p e s m args below meth c s₁ B hml hv
  obtain ⟨rfl, ⟨hsz, hP, hD0, hE⟩, hST⟩ := hv
  have hx := B.exec
  have hb := B.bytes
  have hr := B.returns
  have hts := atoms_spec (ws := wsX2_readFrom) B.pre
  have hown : s.vm.findClass RX2 = some m.cls := findClass_of_methodNamed B.named
  have hlocks := B.notSynchronized
  subst hsz
  have hD := hD0.self (sz := s.heap.size)
  generalize hAe : va_A [(co, .inr (2, [.ref akd, .ref afa, .ref ahd, .int (nI K), .int (nI Hn)])), (akd, .inl (cI, 5, .inl kd)), (afa, .inl (cI, 5, .inl fa)), (ahd, .inl (cI, 5, .inl hd)), (pg, .inr (4, [.ref apl, .int (nI P), .int (nI V)])), (apl, .inl (cI, 22, .inl pgf))] s.heap.size = A at hD hST ⊢
  have hA : ∀ q : Nat, s.heap.size ≤ q → A q := fun q h => by rw [← hAe]; exact Or.inr h
  have hS : va_S A s.heap s.heap [] := va_S.rf
  have hP : va_P D vwCl [(co, .inr (2, [.ref akd, .ref afa, .ref ahd, .int (nI K), .int (nI Hn)])), (akd, .inl (cI, 5, .inl kd)), (afa, .inl (cI, 5, .inl fa)), (ahd, .inl (cI, 5, .inl hd)), (pg, .inr (4, [.ref apl, .int (nI P), .int (nI V)])), (apl, .inl (cI, 22, .inl pgf))] s.heap := hP
  have hD : va_D A [(co, .inr (2, [.ref akd, .ref afa, .ref ahd, .int (nI K), .int (nI Hn)])), (akd, .inl (cI, 5, .inl kd)), (afa, .inl (cI, 5, .inl fa)), (ahd, .inl (cI, 5, .inl hd)), (pg, .inr (4, [.ref apl, .int (nI P), .int (nI V)])), (apl, .inl (cI, 22, .inl pgf))] := hD
  have hl := lv_entry ([.ref co, .ref pg]) (n := 3) (Nat.le_of_ble_eq_true rfl)
  rw [lg_entry_eq]
  generalize (lg_sl ([.ref co, .ref pg]) ++ List.replicate (3 - (lg_sl ([.ref co, .ref pg])).length) Slot.unset).toArray = ls at hl ⊢
  have hl : lv_has ls 3 [(0, .ref co), (1, .ref pg)] := hl
  have hinX2 : ∀ w ∈ wsX20, w ∈ wsX2_readFrom := fun w h => List.mem_cons_of_mem _ (List.mem_append_right _ h)
  have hinX4 : ∀ w ∈ wsX40, w ∈ wsX2_readFrom := fun w h => List.mem_cons_of_mem _ (List.mem_append_left _ (List.mem_append_right _ h))
  have k_0 := hts (.fieldLink RX2 21 "VowDoves$Page" "vowsBegin" "I") (by decide +kernel)
  have k_1 := hts (.methodLink RX2 27 Lib.Math.min.name) (by decide +kernel)
  have k_2 := hts (.static Lib.Math.min.name) (by decide +kernel)
  have k_3 := hts (.initialized "java/lang/Math") (by decide +kernel)
  have k_4 := hts (.code Lib.Math.min.name Lib.Math.min.code 2 (some .int)) (by decide +kernel)
  have k_5 := hts (.fieldLink RX2 33 "VowDoves$Cote" "keepers" "I") (by decide +kernel)
  have k_6 := hts (.fieldLink RX2 36 "VowDoves$Page" "size" "I") (by decide +kernel)
  have k_7 := hts (.fieldLink RX2 39 "VowDoves$Cote" "holes" "I") (by decide +kernel)
  have k_8 := hts (.fieldLink RX2 18 "VowDoves$Cote" "hards" "[I") (by decide +kernel)
  have k_9 := hts (.fieldLink RX2 44 "VowDoves$Page" "letters" "[I") (by decide +kernel)
  have k_10 := hts (.fieldLink RX2 9 "VowDoves$Cote" "kinds" "[I") (by decide +kernel)
  have k_11 := hts (.fieldLink RX2 15 "VowDoves$Cote" "faiths" "[I") (by decide +kernel)
  refine lv_aload_n hx hb dX2_readFrom_0 rfl (lv_at hl 0 rfl) ?_
  refine lv_iconst (v := 5) hx hb dX2_readFrom_1 (by decide) ?_
  refine lv_aload_n hx hb dX2_readFrom_2 rfl (lv_at hl 1 rfl) ?_
  refine va_get (D := D) (ci := 4) (v := .int (nI V)) (C := RX4) (T := TX4) (N := 3) hx hb hts hinX4 hown hE.1 hP 4 rfl rfl 2 (by decide) k_0 (fun _ h9 => h9) rfl dX2_readFrom_3 ?_
  refine lv_iconst (v := 3) hx hb dX2_readFrom_6 (by decide) ?_
  refine z_idivN hx hb (a := V) (b := 3) rfl rfl (by omega) (by omega) (by omega) dX2_readFrom_7 ?_
  refine va_mmin (hx) hb (by rw [hml]; exact hl.1.symm) hown k_1 k_2 k_3 k_4 (Nat.le_of_ble_eq_true rfl) (Nat.le_of_ble_eq_true rfl) (Nat.zero_le _) (Nat.zero_le _) dX2_readFrom_8 ?_
  refine W.eq (g2 := F0 m 11 ls [.int (nI (V / 3)), .ref co]) (by rw [zmin5 (by omega)]) ?_
  refine va_put (D := D) (ci := 2) (v := .int (nI (V / 3))) (ty := .int) (C := RX2) (T := TX2) (N := 5) hx hb hts hinX2 tyX2 tyX2_ok nmX2 hown hE.1 hP hD hS 0 rfl rfl 3 (by decide) k_5 (fun _ h9 => h9) rfl (by decide +kernel) rfl rfl (Nat.le_of_ble_eq_true rfl) dX2_readFrom_11 (fun H locs hP hD hS => ?_)
  have hP : va_P D vwCl [(co, .inr (2, [.ref akd, .ref afa, .ref ahd, .int (nI (V / 3)), .int (nI Hn)])), (akd, .inl (cI, 5, .inl kd)), (afa, .inl (cI, 5, .inl fa)), (ahd, .inl (cI, 5, .inl hd)), (pg, .inr (4, [.ref apl, .int (nI P), .int (nI V)])), (apl, .inl (cI, 22, .inl pgf))] H := hP
  have hD : va_D A [(co, .inr (2, [.ref akd, .ref afa, .ref ahd, .int (nI (V / 3)), .int (nI Hn)])), (akd, .inl (cI, 5, .inl kd)), (afa, .inl (cI, 5, .inl fa)), (ahd, .inl (cI, 5, .inl hd)), (pg, .inr (4, [.ref apl, .int (nI P), .int (nI V)])), (apl, .inl (cI, 22, .inl pgf))] := hD
  refine lv_aload_n hx hb dX2_readFrom_14 rfl (lv_at hl 0 rfl) ?_
  refine lv_iconst (v := 5) hx hb dX2_readFrom_15 (by decide) ?_
  refine lv_aload_n hx hb dX2_readFrom_16 rfl (lv_at hl 1 rfl) ?_
  refine va_get (D := D) (ci := 4) (v := .int (nI P)) (C := RX4) (T := TX4) (N := 3) hx hb hts hinX4 hown hE.1 hP 4 rfl rfl 1 (by decide) k_6 (fun _ h9 => h9) rfl dX2_readFrom_17 ?_
  refine lv_aload_n hx hb dX2_readFrom_20 rfl (lv_at hl 1 rfl) ?_
  refine va_get (D := D) (ci := 4) (v := .int (nI V)) (C := RX4) (T := TX4) (N := 3) hx hb hts hinX4 hown hE.1 hP 4 rfl rfl 2 (by decide) k_0 (fun _ h9 => h9) rfl dX2_readFrom_21 ?_
  refine z_isubN hx hb (a := P) (b := V) rfl rfl (by omega) dX2_readFrom_24 ?_
  refine va_mmin (hx) hb (by rw [hml]; exact hl.1.symm) hown k_1 k_2 k_3 k_4 (Nat.le_of_ble_eq_true rfl) (Nat.le_of_ble_eq_true rfl) (Nat.zero_le _) (Nat.zero_le _) dX2_readFrom_25 ?_
  refine W.eq (g2 := F0 m 28 ls [.int (nI (P - V)), .ref co]) (by rw [zmin5 (by omega)]) ?_
  refine va_put (D := D) (ci := 2) (v := .int (nI (P - V))) (ty := .int) (C := RX2) (T := TX2) (N := 5) hx hb hts hinX2 tyX2 tyX2_ok nmX2 hown hE.1 hP hD hS 0 rfl rfl 4 (by decide) k_7 (fun _ h9 => h9) rfl (by decide +kernel) rfl rfl (Nat.le_of_ble_eq_true rfl) dX2_readFrom_28 (fun H locs hP hD hS => ?_)
  have hP : va_P D vwCl [(co, .inr (2, [.ref akd, .ref afa, .ref ahd, .int (nI (V / 3)), .int (nI (P - V))])), (akd, .inl (cI, 5, .inl kd)), (afa, .inl (cI, 5, .inl fa)), (ahd, .inl (cI, 5, .inl hd)), (pg, .inr (4, [.ref apl, .int (nI P), .int (nI V)])), (apl, .inl (cI, 22, .inl pgf))] H := hP
  have hD : va_D A [(co, .inr (2, [.ref akd, .ref afa, .ref ahd, .int (nI (V / 3)), .int (nI (P - V))])), (akd, .inl (cI, 5, .inl kd)), (afa, .inl (cI, 5, .inl fa)), (ahd, .inl (cI, 5, .inl hd)), (pg, .inr (4, [.ref apl, .int (nI P), .int (nI V)])), (apl, .inl (cI, 22, .inl pgf))] := hD
  refine lv_iconst (v := 0) hx hb dX2_readFrom_31 (by decide) ?_
  refine lv_istore_n (lv' := [(2, .int 0), (0, .ref co), (1, .ref pg)]) hx hb dX2_readFrom_32 rfl hl (by decide) rfl (fun ls hl => ?_)
  have hc33_1 : ∀ (n : Nat) (i : Nat), (i ≤ V / 3) → (V / 3 + 1 ≤ i + n) → ∀ (w2 : Int32), w2 = nI i → ∀ (wk : Nat → Int32), wk = cpN (rdK pgf) kd i → ∀ (wa : Nat → Int32), wa = cpN (rdF pgf) fa i → ∀ (H : Heap) (locs : List Loc), va_P D vwCl [(co, .inr (2, [.ref akd, .ref afa, .ref ahd, .int (nI (V / 3)), .int (nI (P - V))])), (akd, .inl (cI, 5, .inl wk)), (afa, .inl (cI, 5, .inl wa)), (ahd, .inl (cI, 5, .inl hd)), (pg, .inr (4, [.ref apl, .int (nI P), .int (nI V)])), (apl, .inl (cI, 22, .inl pgf))] H → va_D A [(co, .inr (2, [.ref akd, .ref afa, .ref ahd, .int (nI (V / 3)), .int (nI (P - V))])), (akd, .inl (cI, 5, .inl wk)), (afa, .inl (cI, 5, .inl wa)), (ahd, .inl (cI, 5, .inl hd)), (pg, .inr (4, [.ref apl, .int (nI P), .int (nI V)])), (apl, .inl (cI, 22, .inl pgf))] → va_S A s.heap H locs → ∀ (ls : Array Slot), lv_has ls 3 [(2, .int w2), (0, .ref co), (1, .ref pg)] → W p l e (headSpec wsX2_readFrom (zr 5)).room s m ([.ref co, .ref pg] : List Value).toArray below meth c H locs 0 0 (MQ below (va_Qv (fun (_ : Unit) => True) (zB D [(co, .inr (2, [.ref akd, .ref afa, .ref ahd, .int (nI (V / 3)), .int (nI (P - V))])), (akd, .inl (cI, 5, .inl (cpN (rdK pgf) kd (V / 3)))), (afa, .inl (cI, 5, .inl (cpN (rdF pgf) fa (V / 3)))), (ahd, .inl (cI, 5, .inl (cpN (rdH pgf V) hd (P - V)))), (pg, .inr (4, [.ref apl, .int (nI P), .int (nI V)])), (apl, .inl (cI, 22, .inl pgf))] A) A) ([.ref co, .ref pg] : List Value).toArray s 0 0 A) (F0 m 33 ls []) := by
    intro n
    induction n with
    | zero => intro i hi hfu; exact absurd hfu (by omega)
    | succ n ihhc33_1 =>
      intro i hi hfu w2 ew2 wk ewk wa ewa H locs hP hD hS ls hl
      subst ew2
      subst ewk
      subst ewa
      refine lv_iload_n hx hb dX2_readFrom_33 rfl (lv_at hl 0 rfl) ?_
      refine lv_aload_n hx hb dX2_readFrom_34 rfl (lv_at hl 1 rfl) ?_
      refine va_get (D := D) (ci := 2) (v := .int (nI (V / 3))) (C := RX2) (T := TX2) (N := 5) hx hb hts hinX2 hown hE.1 hP 0 rfl rfl 3 (by decide) k_5 (fun _ h9 => h9) rfl dX2_readFrom_35 ?_
      refine lv_icmp_ge (tgt := 86) hx hb dX2_readFrom_38 (by decide) (fun c_38 => ?_) (fun c_38 => ?_)
      · have n_38 := zn_le (a := V / 3) (b := i) rfl rfl c_38 (by omega) (by omega)
        obtain rfl : V / 3 = i := by omega
        refine lv_iconst (v := 0) hx hb dX2_readFrom_86 (by decide) ?_
        refine lv_istore_n (lv' := [(2, .int 0), (0, .ref co), (1, .ref pg)]) hx hb dX2_readFrom_87 rfl hl (by decide) rfl (fun ls hl => ?_)
        have hc88_2 : ∀ (n : Nat) (i : Nat), (i ≤ P - V) → (P - V + 1 ≤ i + n) → ∀ (w2 : Int32), w2 = nI i → ∀ (wh : Nat → Int32), wh = cpN (rdH pgf V) hd i → ∀ (H : Heap) (locs : List Loc), va_P D vwCl [(co, .inr (2, [.ref akd, .ref afa, .ref ahd, .int (nI (V / 3)), .int (nI (P - V))])), (akd, .inl (cI, 5, .inl (cpN (rdK pgf) kd (V / 3)))), (afa, .inl (cI, 5, .inl (cpN (rdF pgf) fa (V / 3)))), (ahd, .inl (cI, 5, .inl wh)), (pg, .inr (4, [.ref apl, .int (nI P), .int (nI V)])), (apl, .inl (cI, 22, .inl pgf))] H → va_D A [(co, .inr (2, [.ref akd, .ref afa, .ref ahd, .int (nI (V / 3)), .int (nI (P - V))])), (akd, .inl (cI, 5, .inl (cpN (rdK pgf) kd (V / 3)))), (afa, .inl (cI, 5, .inl (cpN (rdF pgf) fa (V / 3)))), (ahd, .inl (cI, 5, .inl wh)), (pg, .inr (4, [.ref apl, .int (nI P), .int (nI V)])), (apl, .inl (cI, 22, .inl pgf))] → va_S A s.heap H locs → ∀ (ls : Array Slot), lv_has ls 3 [(2, .int w2), (0, .ref co), (1, .ref pg)] → W p l e (headSpec wsX2_readFrom (zr 5)).room s m ([.ref co, .ref pg] : List Value).toArray below meth c H locs 0 0 (MQ below (va_Qv (fun (_ : Unit) => True) (zB D [(co, .inr (2, [.ref akd, .ref afa, .ref ahd, .int (nI (V / 3)), .int (nI (P - V))])), (akd, .inl (cI, 5, .inl (cpN (rdK pgf) kd (V / 3)))), (afa, .inl (cI, 5, .inl (cpN (rdF pgf) fa (V / 3)))), (ahd, .inl (cI, 5, .inl (cpN (rdH pgf V) hd (P - V)))), (pg, .inr (4, [.ref apl, .int (nI P), .int (nI V)])), (apl, .inl (cI, 22, .inl pgf))] A) A) ([.ref co, .ref pg] : List Value).toArray s 0 0 A) (F0 m 88 ls []) := by
          intro n
          induction n with
          | zero => intro i hi hfu; exact absurd hfu (by omega)
          | succ n ihhc88_2 =>
            intro i hi hfu w2 ew2 wh ewh H locs hP hD hS ls hl
            subst ew2
            subst ewh
            refine lv_iload_n hx hb dX2_readFrom_88 rfl (lv_at hl 0 rfl) ?_
            refine lv_aload_n hx hb dX2_readFrom_89 rfl (lv_at hl 1 rfl) ?_
            refine va_get (D := D) (ci := 2) (v := .int (nI (P - V))) (C := RX2) (T := TX2) (N := 5) hx hb hts hinX2 hown hE.1 hP 0 rfl rfl 4 (by decide) k_7 (fun _ h9 => h9) rfl dX2_readFrom_90 ?_
            refine lv_icmp_ge (tgt := 122) hx hb dX2_readFrom_93 (by decide) (fun c_93 => ?_) (fun c_93 => ?_)
            · have n_93 := zn_le (a := P - V) (b := i) rfl rfl c_93 (by omega) (by omega)
              obtain rfl : P - V = i := by omega
              have hP9 := hP.sub (ws' := [(co, .inr (2, [.ref akd, .ref afa, .ref ahd, .int (nI (V / 3)), .int (nI (P - V))])), (akd, .inl (cI, 5, .inl (cpN (rdK pgf) kd (V / 3)))), (afa, .inl (cI, 5, .inl (cpN (rdF pgf) fa (V / 3)))), (ahd, .inl (cI, 5, .inl (cpN (rdH pgf V) hd (P - V)))), (pg, .inr (4, [.ref apl, .int (nI P), .int (nI V)])), (apl, .inl (cI, 22, .inl pgf))]) [0, 1, 2, 3, 4, 5] rfl
              have hD9 := hD.sub (ws' := [(co, .inr (2, [.ref akd, .ref afa, .ref ahd, .int (nI (V / 3)), .int (nI (P - V))])), (akd, .inl (cI, 5, .inl (cpN (rdK pgf) kd (V / 3)))), (afa, .inl (cI, 5, .inl (cpN (rdF pgf) fa (V / 3)))), (ahd, .inl (cI, 5, .inl (cpN (rdH pgf V) hd (P - V)))), (pg, .inr (4, [.ref apl, .int (nI P), .int (nI V)])), (apl, .inl (cI, 22, .inl pgf))]) [0, 1, 2, 3, 4, 5] (by decide) rfl
              exact W.vret hx hb hr (fun t ht hW => ⟨⟨(), rfl, trivial, by rw [ht]; exact hP9, hD9⟩, hS.F ht⟩) hS.2.2 dX2_readFrom_122
            · have n_93 := zn_nle (a := P - V) (b := i) rfl rfl c_93 (by omega) (by omega)
              refine lv_aload_n hx hb dX2_readFrom_96 rfl (lv_at hl 1 rfl) ?_
              refine va_get (D := D) (ci := 2) (v := .ref ahd) (C := RX2) (T := TX2) (N := 5) hx hb hts hinX2 hown hE.1 hP 0 rfl rfl 2 (by decide) k_8 (fun _ h9 => h9) rfl dX2_readFrom_97 ?_
              refine lv_iload_n hx hb dX2_readFrom_100 rfl (lv_at hl 0 rfl) ?_
              refine lv_aload_n hx hb dX2_readFrom_101 rfl (lv_at hl 2 rfl) ?_
              refine va_get (D := D) (ci := 4) (v := .ref apl) (C := RX4) (T := TX4) (N := 3) hx hb hts hinX4 hown hE.1 hP 4 rfl rfl 0 (by decide) k_9 (fun _ h9 => h9) rfl dX2_readFrom_102 ?_
              refine lv_aload_n hx hb dX2_readFrom_105 rfl (lv_at hl 2 rfl) ?_
              refine va_get (D := D) (ci := 4) (v := .int (nI V)) (C := RX4) (T := TX4) (N := 3) hx hb hts hinX4 hown hE.1 hP 4 rfl rfl 2 (by decide) k_0 (fun _ h9 => h9) rfl dX2_readFrom_106 ?_
              refine lv_iload_n hx hb dX2_readFrom_109 rfl (lv_at hl 0 rfl) ?_
              refine z_iaddN hx hb (a := V) (b := i) rfl rfl dX2_readFrom_110 ?_
              refine z_iald hx hb hE hP 5 rfl (j := V + i) rfl (by omega) (by decide) dX2_readFrom_111 ?_
              refine lv_bipush (v := 48) hx hb dX2_readFrom_112 (by decide) ?_
              refine lv_isub hx hb dX2_readFrom_114 ?_
              refine z_iast hx hb hE hP hD hS 3 rfl (j := i) rfl (by omega) (by decide) dX2_readFrom_115 (fun H locs hP hD hS => ?_)
              have hP : va_P D vwCl [(co, .inr (2, [.ref akd, .ref afa, .ref ahd, .int (nI (V / 3)), .int (nI (P - V))])), (akd, .inl (cI, 5, .inl (cpN (rdK pgf) kd (V / 3)))), (afa, .inl (cI, 5, .inl (cpN (rdF pgf) fa (V / 3)))), (ahd, .inl (cI, 5, .inl (upd (cpN (rdH pgf V) hd i) i ((pgf (V + i)) - 48)))), (pg, .inr (4, [.ref apl, .int (nI P), .int (nI V)])), (apl, .inl (cI, 22, .inl pgf))] H := hP
              have hD : va_D A [(co, .inr (2, [.ref akd, .ref afa, .ref ahd, .int (nI (V / 3)), .int (nI (P - V))])), (akd, .inl (cI, 5, .inl (cpN (rdK pgf) kd (V / 3)))), (afa, .inl (cI, 5, .inl (cpN (rdF pgf) fa (V / 3)))), (ahd, .inl (cI, 5, .inl (upd (cpN (rdH pgf V) hd i) i ((pgf (V + i)) - 48)))), (pg, .inr (4, [.ref apl, .int (nI P), .int (nI V)])), (apl, .inl (cI, 22, .inl pgf))] := hD
              refine lv_iinc (v := nI (i + 1)) (lv' := [(2, .int (nI (i + 1))), (0, .ref co), (1, .ref pg)]) hx hb dX2_readFrom_116 hl (k := 0) rfl (nI_add i 1) (by decide) rfl (fun ls hl => ?_)
              refine lv_goto (tgt := 88) hx hb dX2_readFrom_119 (by decide) ?_
              exact ihhc88_2 (i + 1) (by omega) (by omega) (nI (i + 1)) rfl (upd (cpN (rdH pgf V) hd i) i ((pgf (V + i)) - 48)) (cpN_s (rdH pgf V) hd i) _ _ (hP.sub [0, 1, 2, 3, 4, 5] rfl) (hD.sub [0, 1, 2, 3, 4, 5] (by decide) rfl) hS ls (lv_sub hl [0, 1, 2] rfl)
        exact hc88_2 (P - V + 1) 0 (by omega) (by omega) 0 rfl hd (cpN_0 _ _).symm _ _ (hP.sub [0, 1, 2, 3, 4, 5] rfl) (hD.sub [0, 1, 2, 3, 4, 5] (by decide) rfl) hS ls (lv_sub hl [0, 1, 2] rfl)
      · have n_38 := zn_nle (a := V / 3) (b := i) rfl rfl c_38 (by omega) (by omega)
        refine lv_aload_n hx hb dX2_readFrom_41 rfl (lv_at hl 1 rfl) ?_
        refine va_get (D := D) (ci := 2) (v := .ref akd) (C := RX2) (T := TX2) (N := 5) hx hb hts hinX2 hown hE.1 hP 0 rfl rfl 0 (by decide) k_10 (fun _ h9 => h9) rfl dX2_readFrom_42 ?_
        refine lv_iload_n hx hb dX2_readFrom_45 rfl (lv_at hl 0 rfl) ?_
        refine va_ldcS hx hb hown hST.2.2 dX2_readFrom_46 ?_
        refine lv_aload_n hx hb dX2_readFrom_48 rfl (lv_at hl 2 rfl) ?_
        refine va_get (D := D) (ci := 4) (v := .ref apl) (C := RX4) (T := TX4) (N := 3) hx hb hts hinX4 hown hE.1 hP 4 rfl rfl 0 (by decide) k_9 (fun _ h9 => h9) rfl dX2_readFrom_49 ?_
        refine lv_iconst (v := 3) hx hb dX2_readFrom_52 (by decide) ?_
        refine lv_iload_n hx hb dX2_readFrom_53 rfl (lv_at hl 0 rfl) ?_
        refine z_imulN hx hb (a := 3) (b := i) rfl rfl dX2_readFrom_54 ?_
        refine z_iald hx hb hE hP 5 rfl (j := 3 * i) rfl (by omega) (by decide) dX2_readFrom_55 ?_
        refine lv_i2c (v := ((pgf (3 * i) : Int32).toUInt32 % 65536).toInt32) hx hb dX2_readFrom_56 rfl ?_
        refine z_soVi (As := [.int (i2 (pgf (3 * i)))]) (rest := [.int (nI i), .ref akd]) ⟨hx, hb, hml, hown, hts⟩ (c_J0_indexOf_0f7a4 l D cI cZ cA aK aV (i2 (pgf (3 * i))) ) (cwV 1 hts gX2_readFrom_J0_indexOf_0f7a4 rfl rfl rfl (by decide +kernel) ⟨Nat.le_of_ble_eq_true rfl, Nat.le_of_ble_eq_true rfl⟩) hST.1 hS rfl hl.1 rfl (Nat.le_of_ble_eq_true rfl) dX2_readFrom_57 ⟨Nat.zero_le _, Nat.zero_le _⟩ ?_
        refine z_iast hx hb hE hP hD hS 1 rfl (j := i) rfl (by omega) (by decide) dX2_readFrom_60 (fun H locs hP hD hS => ?_)
        have hP : va_P D vwCl [(co, .inr (2, [.ref akd, .ref afa, .ref ahd, .int (nI (V / 3)), .int (nI (P - V))])), (akd, .inl (cI, 5, .inl (upd (cpN (rdK pgf) kd i) i (kb (i2 (pgf (3 * i))))))), (afa, .inl (cI, 5, .inl (cpN (rdF pgf) fa i))), (ahd, .inl (cI, 5, .inl hd)), (pg, .inr (4, [.ref apl, .int (nI P), .int (nI V)])), (apl, .inl (cI, 22, .inl pgf))] H := hP
        have hD : va_D A [(co, .inr (2, [.ref akd, .ref afa, .ref ahd, .int (nI (V / 3)), .int (nI (P - V))])), (akd, .inl (cI, 5, .inl (upd (cpN (rdK pgf) kd i) i (kb (i2 (pgf (3 * i))))))), (afa, .inl (cI, 5, .inl (cpN (rdF pgf) fa i))), (ahd, .inl (cI, 5, .inl hd)), (pg, .inr (4, [.ref apl, .int (nI P), .int (nI V)])), (apl, .inl (cI, 22, .inl pgf))] := hD
        refine lv_aload_n hx hb dX2_readFrom_61 rfl (lv_at hl 1 rfl) ?_
        refine va_get (D := D) (ci := 2) (v := .ref afa) (C := RX2) (T := TX2) (N := 5) hx hb hts hinX2 hown hE.1 hP 0 rfl rfl 1 (by decide) k_11 (fun _ h9 => h9) rfl dX2_readFrom_62 ?_
        refine lv_iload_n hx hb dX2_readFrom_65 rfl (lv_at hl 0 rfl) ?_
        refine lv_aload_n hx hb dX2_readFrom_66 rfl (lv_at hl 2 rfl) ?_
        refine va_get (D := D) (ci := 4) (v := .ref apl) (C := RX4) (T := TX4) (N := 3) hx hb hts hinX4 hown hE.1 hP 4 rfl rfl 0 (by decide) k_9 (fun _ h9 => h9) rfl dX2_readFrom_67 ?_
        refine lv_iconst (v := 3) hx hb dX2_readFrom_70 (by decide) ?_
        refine lv_iload_n hx hb dX2_readFrom_71 rfl (lv_at hl 0 rfl) ?_
        refine z_imulN hx hb (a := 3) (b := i) rfl rfl dX2_readFrom_72 ?_
        refine lv_iconst (v := 1) hx hb dX2_readFrom_73 (by decide) ?_
        refine z_iaddN hx hb (a := 3 * i) (b := 1) rfl rfl dX2_readFrom_74 ?_
        refine z_iald hx hb hE hP 5 rfl (j := (3 * i) + 1) rfl (by omega) (by decide) dX2_readFrom_75 ?_
        refine lv_bipush (v := 48) hx hb dX2_readFrom_76 (by decide) ?_
        refine lv_isub hx hb dX2_readFrom_78 ?_
        refine z_iast hx hb hE hP hD hS 2 rfl (j := i) rfl (by omega) (by decide) dX2_readFrom_79 (fun H locs hP hD hS => ?_)
        have hP : va_P D vwCl [(co, .inr (2, [.ref akd, .ref afa, .ref ahd, .int (nI (V / 3)), .int (nI (P - V))])), (akd, .inl (cI, 5, .inl (upd (cpN (rdK pgf) kd i) i (kb (i2 (pgf (3 * i))))))), (afa, .inl (cI, 5, .inl (upd (cpN (rdF pgf) fa i) i ((pgf ((3 * i) + 1)) - 48)))), (ahd, .inl (cI, 5, .inl hd)), (pg, .inr (4, [.ref apl, .int (nI P), .int (nI V)])), (apl, .inl (cI, 22, .inl pgf))] H := hP
        have hD : va_D A [(co, .inr (2, [.ref akd, .ref afa, .ref ahd, .int (nI (V / 3)), .int (nI (P - V))])), (akd, .inl (cI, 5, .inl (upd (cpN (rdK pgf) kd i) i (kb (i2 (pgf (3 * i))))))), (afa, .inl (cI, 5, .inl (upd (cpN (rdF pgf) fa i) i ((pgf ((3 * i) + 1)) - 48)))), (ahd, .inl (cI, 5, .inl hd)), (pg, .inr (4, [.ref apl, .int (nI P), .int (nI V)])), (apl, .inl (cI, 22, .inl pgf))] := hD
        refine lv_iinc (v := nI (i + 1)) (lv' := [(2, .int (nI (i + 1))), (0, .ref co), (1, .ref pg)]) hx hb dX2_readFrom_80 hl (k := 0) rfl (nI_add i 1) (by decide) rfl (fun ls hl => ?_)
        refine lv_goto (tgt := 33) hx hb dX2_readFrom_83 (by decide) ?_
        exact ihhc33_1 (i + 1) (by omega) (by omega) (nI (i + 1)) rfl (upd (cpN (rdK pgf) kd i) i (kb (i2 (pgf (3 * i))))) (cpN_s (rdK pgf) kd i) (upd (cpN (rdF pgf) fa i) i ((pgf ((3 * i) + 1)) - 48)) (cpN_s (rdF pgf) fa i) _ _ (hP.sub [0, 1, 2, 3, 4, 5] rfl) (hD.sub [0, 1, 2, 3, 4, 5] (by decide) rfl) hS ls (lv_sub hl [0, 1, 2] rfl)
  exact hc33_1 (V / 3 + 1) 0 (by omega) (by omega) 0 rfl kd (cpN_0 _ _).symm fa (cpN_0 _ _).symm _ _ (hP.sub [0, 1, 2, 3, 4, 5] rfl) (hD.sub [0, 1, 2, 3, 4, 5] (by decide) rfl) hS ls (lv_sub hl [0, 1, 2] rfl)

set_option maxHeartbeats 1000000 in
set_option maxRecDepth 100000 in
theorem c_X5_tower (l : Launch) (D : va_G) (cI cZ cA : ClassId) (sz : Nat) (vd : Nat) (pg : Nat) (co : Nat) (bk : Nat) (kb : Nat) (mt : Nat) (rn : Nat) (im : Int32) (tr : Int32) (apl : Nat) (P : Nat) (vb : Int32) (akd : Nat) (afa : Nat) (ahd : Nat) (K : Nat) (Hn : Nat) (alt : Nat) (abd : Nat) (aeg : Nat) (abr : Nat) (ask : Nat) (ash : Nat) (ast : Nat) (sn : Nat) (yr : Int32) (pgf : Nat → Int32) (kd : Nat → Int32) (fa : Nat → Int32) (hd : Nat → Int32) (lt : Nat → Int32) (bd : Nat → Int32) (eg : Nat → Int32) (br : Nat → Int32) (V : Nat) (aK : Nat) (aV : Nat) (hV3 : V % 3 = 0) (hV6 : 6 ≤ V) (hV15 : V ≤ 15) (hVP : V + 2 ≤ P) (hPV : P ≤ V + 5) (hP22 : P ≤ 22) (hsc : scC pgf P = (P, nI V)) : Met l yX5_tower wsX5_tower (zr 8) (va_Pc [.ref vd] (zPs D cI cZ cA [(vd, .inr (5, [.ref pg, .ref co, .ref bk, .ref kb, .ref mt, .ref rn, .int im, .int tr])), (pg, .inr (4, [.ref apl, .int (nI P), .int vb])), (apl, .inl (cI, 22, .inl pgf)), (co, .inr (2, [.ref akd, .ref afa, .ref ahd, .int (nI K), .int (nI Hn)])), (akd, .inl (cI, 5, .inl kd)), (afa, .inl (cI, 5, .inl fa)), (ahd, .inl (cI, 5, .inl hd)), (bk, .inr (0, [.ref alt, .ref abd, .ref aeg, .ref abr, .ref ask, .ref ash, .ref ast, .int (nI sn), .int yr])), (alt, .inl (cI, 5, .inl lt)), (abd, .inl (cI, 5, .inl bd)), (aeg, .inl (cI, 5, .inl eg)), (abr, .inl (cI, 5, .inl br))] sz aK aV)) (va_Qi (fun (r : Int32) (_ : Unit) => r = nI (P - V)) (zB D [(vd, .inr (5, [.ref pg, .ref co, .ref bk, .ref kb, .ref mt, .ref rn, .int 0, .int (tr + 1)])), (pg, .inr (4, [.ref apl, .int (nI 0), .int (nI V)])), (apl, .inl (cI, 22, .inl pgf)), (co, .inr (2, [.ref akd, .ref afa, .ref ahd, .int (nI (V / 3)), .int (nI (P - V))])), (akd, .inl (cI, 5, .inl (cpN (rdK pgf) kd (V / 3)))), (afa, .inl (cI, 5, .inl (cpN (rdF pgf) fa (V / 3)))), (ahd, .inl (cI, 5, .inl (cpN (rdH pgf V) hd (P - V)))), (bk, .inr (0, [.ref alt, .ref abd, .ref aeg, .ref abr, .ref ask, .ref ash, .ref ast, .int (nI 0), .int 0])), (alt, .inl (cI, 5, .inl (cst (-1)))), (abd, .inl (cI, 5, .inl (cst 0))), (aeg, .inl (cI, 5, .inl (cst 0))), (abr, .inl (cI, 5, .inl (cst 0)))] (va_A [(vd, .inr (5, [.ref pg, .ref co, .ref bk, .ref kb, .ref mt, .ref rn, .int im, .int tr])), (pg, .inr (4, [.ref apl, .int (nI P), .int vb])), (apl, .inl (cI, 22, .inl pgf)), (co, .inr (2, [.ref akd, .ref afa, .ref ahd, .int (nI K), .int (nI Hn)])), (akd, .inl (cI, 5, .inl kd)), (afa, .inl (cI, 5, .inl fa)), (ahd, .inl (cI, 5, .inl hd)), (bk, .inr (0, [.ref alt, .ref abd, .ref aeg, .ref abr, .ref ask, .ref ash, .ref ast, .int (nI sn), .int yr])), (alt, .inl (cI, 5, .inl lt)), (abd, .inl (cI, 5, .inl bd)), (aeg, .inl (cI, 5, .inl eg)), (abr, .inl (cI, 5, .inl br))] sz)) (va_A [(vd, .inr (5, [.ref pg, .ref co, .ref bk, .ref kb, .ref mt, .ref rn, .int im, .int tr])), (pg, .inr (4, [.ref apl, .int (nI P), .int vb])), (apl, .inl (cI, 22, .inl pgf)), (co, .inr (2, [.ref akd, .ref afa, .ref ahd, .int (nI K), .int (nI Hn)])), (akd, .inl (cI, 5, .inl kd)), (afa, .inl (cI, 5, .inl fa)), (ahd, .inl (cI, 5, .inl hd)), (bk, .inr (0, [.ref alt, .ref abd, .ref aeg, .ref abr, .ref ask, .ref ash, .ref ast, .int (nI sn), .int yr])), (alt, .inl (cI, 5, .inl lt)), (abd, .inl (cI, 5, .inl bd)), (aeg, .inl (cI, 5, .inl eg)), (abr, .inl (cI, 5, .inl br))] sz)) 0 0 (va_A [(vd, .inr (5, [.ref pg, .ref co, .ref bk, .ref kb, .ref mt, .ref rn, .int im, .int tr])), (pg, .inr (4, [.ref apl, .int (nI P), .int vb])), (apl, .inl (cI, 22, .inl pgf)), (co, .inr (2, [.ref akd, .ref afa, .ref ahd, .int (nI K), .int (nI Hn)])), (akd, .inl (cI, 5, .inl kd)), (afa, .inl (cI, 5, .inl fa)), (ahd, .inl (cI, 5, .inl hd)), (bk, .inr (0, [.ref alt, .ref abd, .ref aeg, .ref abr, .ref ask, .ref ash, .ref ast, .int (nI sn), .int yr])), (alt, .inl (cI, 5, .inl lt)), (abd, .inl (cI, 5, .inl bd)), (aeg, .inl (cI, 5, .inl eg)), (abr, .inl (cI, 5, .inl br))] sz) := by
  refine Met.ofW (cc := cX5_tower) (maxL := 1) (ret := (some .int)) (by decide) rfl ?_
  intro p e s m args below meth c s₁ B hml hv
  obtain ⟨rfl, ⟨hsz, hP, hD0, hE⟩, hST⟩ := hv
  have hx := B.exec
  have hb := B.bytes
  have hr := B.returns
  have hts := atoms_spec (ws := wsX5_tower) B.pre
  have hown : s.vm.findClass RX5 = some m.cls := findClass_of_methodNamed B.named
  have hlocks := B.notSynchronized
  subst hsz
  have hD := hD0.self (sz := s.heap.size)
  generalize hAe : va_A [(vd, .inr (5, [.ref pg, .ref co, .ref bk, .ref kb, .ref mt, .ref rn, .int im, .int tr])), (pg, .inr (4, [.ref apl, .int (nI P), .int vb])), (apl, .inl (cI, 22, .inl pgf)), (co, .inr (2, [.ref akd, .ref afa, .ref ahd, .int (nI K), .int (nI Hn)])), (akd, .inl (cI, 5, .inl kd)), (afa, .inl (cI, 5, .inl fa)), (ahd, .inl (cI, 5, .inl hd)), (bk, .inr (0, [.ref alt, .ref abd, .ref aeg, .ref abr, .ref ask, .ref ash, .ref ast, .int (nI sn), .int yr])), (alt, .inl (cI, 5, .inl lt)), (abd, .inl (cI, 5, .inl bd)), (aeg, .inl (cI, 5, .inl eg)), (abr, .inl (cI, 5, .inl br))] s.heap.size = A at hD hST ⊢
  have hA : ∀ q : Nat, s.heap.size ≤ q → A q := fun q h => by rw [← hAe]; exact Or.inr h
  have hS : va_S A s.heap s.heap [] := va_S.rf
  have hP : va_P D vwCl [(vd, .inr (5, [.ref pg, .ref co, .ref bk, .ref kb, .ref mt, .ref rn, .int im, .int tr])), (pg, .inr (4, [.ref apl, .int (nI P), .int vb])), (apl, .inl (cI, 22, .inl pgf)), (co, .inr (2, [.ref akd, .ref afa, .ref ahd, .int (nI K), .int (nI Hn)])), (akd, .inl (cI, 5, .inl kd)), (afa, .inl (cI, 5, .inl fa)), (ahd, .inl (cI, 5, .inl hd)), (bk, .inr (0, [.ref alt, .ref abd, .ref aeg, .ref abr, .ref ask, .ref ash, .ref ast, .int (nI sn), .int yr])), (alt, .inl (cI, 5, .inl lt)), (abd, .inl (cI, 5, .inl bd)), (aeg, .inl (cI, 5, .inl eg)), (abr, .inl (cI, 5, .inl br))] s.heap := hP
  have hD : va_D A [(vd, .inr (5, [.ref pg, .ref co, .ref bk, .ref kb, .ref mt, .ref rn, .int im, .int tr])), (pg, .inr (4, [.ref apl, .int (nI P), .int vb])), (apl, .inl (cI, 22, .inl pgf)), (co, .inr (2, [.ref akd, .ref afa, .ref ahd, .int (nI K), .int (nI Hn)])), (akd, .inl (cI, 5, .inl kd)), (afa, .inl (cI, 5, .inl fa)), (ahd, .inl (cI, 5, .inl hd)), (bk, .inr (0, [.ref alt, .ref abd, .ref aeg, .ref abr, .ref ask, .ref ash, .ref ast, .int (nI sn), .int yr])), (alt, .inl (cI, 5, .inl lt)), (abd, .inl (cI, 5, .inl bd)), (aeg, .inl (cI, 5, .inl eg)), (abr, .inl (cI, 5, .inl br))] := hD
  have hl := lv_entry ([.ref vd]) (n := 1) (Nat.le_of_ble_eq_true rfl)
  rw [lg_entry_eq]
  generalize (lg_sl ([.ref vd]) ++ List.replicate (1 - (lg_sl ([.ref vd])).length) Slot.unset).toArray = ls at hl ⊢
  have hl : lv_has ls 1 [(0, .ref vd)] := hl
  have hinX2 : ∀ w ∈ wsX20, w ∈ wsX5_tower := fun w h => List.mem_cons_of_mem _ (List.mem_append_left _ (List.mem_append_right _ h))
  have hinX4 : ∀ w ∈ wsX40, w ∈ wsX5_tower := fun w h => List.mem_cons_of_mem _ (List.mem_append_left _ (List.mem_append_left _ (List.mem_append_right _ h)))
  have hinX5 : ∀ w ∈ wsX50, w ∈ wsX5_tower := fun w h => List.mem_cons_of_mem _ (List.mem_append_left _ (List.mem_append_left _ (List.mem_append_left _ (List.mem_append_right _ h))))
  have k_0 := hts (.fieldLink RX5 10 "VowDoves" "page" "LVowDoves$Page;") (by decide +kernel)
  have k_1 := hts (.fieldLink RX5 19 "VowDoves" "cote" "LVowDoves$Cote;") (by decide +kernel)
  have k_2 := hts (.fieldLink RX5 26 "VowDoves" "book" "LVowDoves$Book;") (by decide +kernel)
  have k_3 := hts (.fieldLink RX5 47 "VowDoves" "isImageKept" "Z") (by decide +kernel)
  have k_4 := hts (.fieldLink RX5 51 "VowDoves" "towersRead" "I") (by decide +kernel)
  have k_5 := hts (.fieldLink RX5 55 "VowDoves$Page" "size" "I") (by decide +kernel)
  have k_6 := hts (.fieldLink RX5 77 "VowDoves$Cote" "holes" "I") (by decide +kernel)
  refine lv_aload_n hx hb dX5_tower_0 rfl (lv_at hl 0 rfl) ?_
  refine va_get (D := D) (ci := 5) (v := .ref pg) (C := RX5) (T := TX5) (N := 8) hx hb hts hinX5 hown hE.1 hP 0 rfl rfl 0 (by decide) k_0 (fun _ h9 => h9) rfl dX5_tower_1 ?_
  refine z_rsVi (As := []) (rest := []) (wr := [(vd, .inr (5, [.ref pg, .ref co, .ref bk, .ref kb, .ref mt, .ref rn, .int im, .int tr])), (co, .inr (2, [.ref akd, .ref afa, .ref ahd, .int (nI K), .int (nI Hn)])), (akd, .inl (cI, 5, .inl kd)), (afa, .inl (cI, 5, .inl fa)), (ahd, .inl (cI, 5, .inl hd)), (bk, .inr (0, [.ref alt, .ref abd, .ref aeg, .ref abr, .ref ask, .ref ash, .ref ast, .int (nI sn), .int yr])), (alt, .inl (cI, 5, .inl lt)), (abd, .inl (cI, 5, .inl bd)), (aeg, .inl (cI, 5, .inl eg)), (abr, .inl (cI, 5, .inl br))]) (w1 := [(pg, .inr (4, [.ref apl, .int (nI P), .int ((scC pgf P).2)])), (apl, .inl (cI, 22, .inl pgf))]) ⟨hx, hb, hml, hown, hts⟩ (c_X4_isTower l D cI cZ cA _ pg apl P vb pgf aK aV (by first | assumption | omega)) (cwV 0 hts gX5_tower_X4_isTower rfl rfl rfl (by decide +kernel) ⟨Nat.le_of_ble_eq_true rfl, Nat.le_of_ble_eq_true rfl⟩) hE hST hP hD hS hA [1, 2] [0, 3, 4, 5, 6, 7, 8, 9, 10, 11] rfl rfl rfl (by decide) (by decide) (by decide) 0 4 rfl rfl rfl hl.1 rfl (Nat.le_of_ble_eq_true rfl) dX5_tower_4 ⟨Nat.zero_le _, Nat.zero_le _⟩ (fun H locs hP hD hS => ?_)
  have hP : va_P D vwCl [(vd, .inr (5, [.ref pg, .ref co, .ref bk, .ref kb, .ref mt, .ref rn, .int im, .int tr])), (co, .inr (2, [.ref akd, .ref afa, .ref ahd, .int (nI K), .int (nI Hn)])), (akd, .inl (cI, 5, .inl kd)), (afa, .inl (cI, 5, .inl fa)), (ahd, .inl (cI, 5, .inl hd)), (bk, .inr (0, [.ref alt, .ref abd, .ref aeg, .ref abr, .ref ask, .ref ash, .ref ast, .int (nI sn), .int yr])), (alt, .inl (cI, 5, .inl lt)), (abd, .inl (cI, 5, .inl bd)), (aeg, .inl (cI, 5, .inl eg)), (abr, .inl (cI, 5, .inl br)), (pg, .inr (4, [.ref apl, .int (nI P), .int ((scC pgf P).2)])), (apl, .inl (cI, 22, .inl pgf))] H := hP
  have hD : va_D A [(vd, .inr (5, [.ref pg, .ref co, .ref bk, .ref kb, .ref mt, .ref rn, .int im, .int tr])), (co, .inr (2, [.ref akd, .ref afa, .ref ahd, .int (nI K), .int (nI Hn)])), (akd, .inl (cI, 5, .inl kd)), (afa, .inl (cI, 5, .inl fa)), (ahd, .inl (cI, 5, .inl hd)), (bk, .inr (0, [.ref alt, .ref abd, .ref aeg, .ref abr, .ref ask, .ref ash, .ref ast, .int (nI sn), .int yr])), (alt, .inl (cI, 5, .inl lt)), (abd, .inl (cI, 5, .inl bd)), (aeg, .inl (cI, 5, .inl eg)), (abr, .inl (cI, 5, .inl br)), (pg, .inr (4, [.ref apl, .int (nI P), .int ((scC pgf P).2)])), (apl, .inl (cI, 22, .inl pgf))] := hD
  refine lv_if_ne (tgt := 13) hx hb dX5_tower_7 (by decide) (fun c_7 => ?_) (fun c_7 => ?_)
  · have c_7 := zb_1 c_7
    have eV : (scC pgf P).2 = nI V := by rw [hsc]
    rw [eV] at hP hD
    have hP : va_P D vwCl [(vd, .inr (5, [.ref pg, .ref co, .ref bk, .ref kb, .ref mt, .ref rn, .int im, .int tr])), (co, .inr (2, [.ref akd, .ref afa, .ref ahd, .int (nI K), .int (nI Hn)])), (akd, .inl (cI, 5, .inl kd)), (afa, .inl (cI, 5, .inl fa)), (ahd, .inl (cI, 5, .inl hd)), (bk, .inr (0, [.ref alt, .ref abd, .ref aeg, .ref abr, .ref ask, .ref ash, .ref ast, .int (nI sn), .int yr])), (alt, .inl (cI, 5, .inl lt)), (abd, .inl (cI, 5, .inl bd)), (aeg, .inl (cI, 5, .inl eg)), (abr, .inl (cI, 5, .inl br)), (pg, .inr (4, [.ref apl, .int (nI P), .int (nI V)])), (apl, .inl (cI, 22, .inl pgf))] _ := hP
    have hD : va_D A [(vd, .inr (5, [.ref pg, .ref co, .ref bk, .ref kb, .ref mt, .ref rn, .int im, .int tr])), (co, .inr (2, [.ref akd, .ref afa, .ref ahd, .int (nI K), .int (nI Hn)])), (akd, .inl (cI, 5, .inl kd)), (afa, .inl (cI, 5, .inl fa)), (ahd, .inl (cI, 5, .inl hd)), (bk, .inr (0, [.ref alt, .ref abd, .ref aeg, .ref abr, .ref ask, .ref ash, .ref ast, .int (nI sn), .int yr])), (alt, .inl (cI, 5, .inl lt)), (abd, .inl (cI, 5, .inl bd)), (aeg, .inl (cI, 5, .inl eg)), (abr, .inl (cI, 5, .inl br)), (pg, .inr (4, [.ref apl, .int (nI P), .int (nI V)])), (apl, .inl (cI, 22, .inl pgf))] := hD
    refine lv_aload_n hx hb dX5_tower_13 rfl (lv_at hl 0 rfl) ?_
    refine va_get (D := D) (ci := 5) (v := .ref co) (C := RX5) (T := TX5) (N := 8) hx hb hts hinX5 hown hE.1 hP 0 rfl rfl 1 (by decide) k_1 (fun _ h9 => h9) rfl dX5_tower_14 ?_
    refine lv_aload_n hx hb dX5_tower_17 rfl (lv_at hl 0 rfl) ?_
    refine va_get (D := D) (ci := 5) (v := .ref pg) (C := RX5) (T := TX5) (N := 8) hx hb hts hinX5 hown hE.1 hP 0 rfl rfl 0 (by decide) k_0 (fun _ h9 => h9) rfl dX5_tower_18 ?_
    refine z_rsVv (As := [.ref pg]) (rest := []) (wr := [(vd, .inr (5, [.ref pg, .ref co, .ref bk, .ref kb, .ref mt, .ref rn, .int im, .int tr])), (bk, .inr (0, [.ref alt, .ref abd, .ref aeg, .ref abr, .ref ask, .ref ash, .ref ast, .int (nI sn), .int yr])), (alt, .inl (cI, 5, .inl lt)), (abd, .inl (cI, 5, .inl bd)), (aeg, .inl (cI, 5, .inl eg)), (abr, .inl (cI, 5, .inl br))]) (w1 := [(co, .inr (2, [.ref akd, .ref afa, .ref ahd, .int (nI (V / 3)), .int (nI (P - V))])), (akd, .inl (cI, 5, .inl (cpN (rdK pgf) kd (V / 3)))), (afa, .inl (cI, 5, .inl (cpN (rdF pgf) fa (V / 3)))), (ahd, .inl (cI, 5, .inl (cpN (rdH pgf V) hd (P - V)))), (pg, .inr (4, [.ref apl, .int (nI P), .int (nI V)])), (apl, .inl (cI, 22, .inl pgf))]) ⟨hx, hb, hml, hown, hts⟩ (c_X2_readFrom l D cI cZ cA _ co akd afa ahd K Hn pg apl P V kd fa hd pgf aK aV (by first | assumption | omega) (by first | assumption | omega) (by first | assumption | omega) (by first | assumption | omega) (by first | assumption | omega) (by first | assumption | omega)) (cwV 1 hts gX5_tower_X2_readFrom rfl rfl rfl (by decide +kernel) ⟨Nat.le_of_ble_eq_true rfl, Nat.le_of_ble_eq_true rfl⟩) hE hST hP hD hS hA [1, 2, 3, 4, 10, 11] [0, 5, 6, 7, 8, 9] rfl rfl rfl (by decide) (by decide) (by decide) 0 2 rfl rfl rfl hl.1 rfl (Nat.le_of_ble_eq_true rfl) dX5_tower_21 ⟨Nat.zero_le _, Nat.zero_le _⟩ (fun H locs hP hD hS => ?_)
    have hP : va_P D vwCl [(vd, .inr (5, [.ref pg, .ref co, .ref bk, .ref kb, .ref mt, .ref rn, .int im, .int tr])), (bk, .inr (0, [.ref alt, .ref abd, .ref aeg, .ref abr, .ref ask, .ref ash, .ref ast, .int (nI sn), .int yr])), (alt, .inl (cI, 5, .inl lt)), (abd, .inl (cI, 5, .inl bd)), (aeg, .inl (cI, 5, .inl eg)), (abr, .inl (cI, 5, .inl br)), (co, .inr (2, [.ref akd, .ref afa, .ref ahd, .int (nI (V / 3)), .int (nI (P - V))])), (akd, .inl (cI, 5, .inl (cpN (rdK pgf) kd (V / 3)))), (afa, .inl (cI, 5, .inl (cpN (rdF pgf) fa (V / 3)))), (ahd, .inl (cI, 5, .inl (cpN (rdH pgf V) hd (P - V)))), (pg, .inr (4, [.ref apl, .int (nI P), .int (nI V)])), (apl, .inl (cI, 22, .inl pgf))] H := hP
    have hD : va_D A [(vd, .inr (5, [.ref pg, .ref co, .ref bk, .ref kb, .ref mt, .ref rn, .int im, .int tr])), (bk, .inr (0, [.ref alt, .ref abd, .ref aeg, .ref abr, .ref ask, .ref ash, .ref ast, .int (nI sn), .int yr])), (alt, .inl (cI, 5, .inl lt)), (abd, .inl (cI, 5, .inl bd)), (aeg, .inl (cI, 5, .inl eg)), (abr, .inl (cI, 5, .inl br)), (co, .inr (2, [.ref akd, .ref afa, .ref ahd, .int (nI (V / 3)), .int (nI (P - V))])), (akd, .inl (cI, 5, .inl (cpN (rdK pgf) kd (V / 3)))), (afa, .inl (cI, 5, .inl (cpN (rdF pgf) fa (V / 3)))), (ahd, .inl (cI, 5, .inl (cpN (rdH pgf V) hd (P - V)))), (pg, .inr (4, [.ref apl, .int (nI P), .int (nI V)])), (apl, .inl (cI, 22, .inl pgf))] := hD
    refine lv_aload_n hx hb dX5_tower_24 rfl (lv_at hl 0 rfl) ?_
    refine va_get (D := D) (ci := 5) (v := .ref bk) (C := RX5) (T := TX5) (N := 8) hx hb hts hinX5 hown hE.1 hP 0 rfl rfl 2 (by decide) k_2 (fun _ h9 => h9) rfl dX5_tower_25 ?_
    refine z_rwVv (As := []) (rest := []) (wr := [(vd, .inr (5, [.ref pg, .ref co, .ref bk, .ref kb, .ref mt, .ref rn, .int im, .int tr])), (co, .inr (2, [.ref akd, .ref afa, .ref ahd, .int (nI (V / 3)), .int (nI (P - V))])), (akd, .inl (cI, 5, .inl (cpN (rdK pgf) kd (V / 3)))), (afa, .inl (cI, 5, .inl (cpN (rdF pgf) fa (V / 3)))), (ahd, .inl (cI, 5, .inl (cpN (rdH pgf V) hd (P - V)))), (pg, .inr (4, [.ref apl, .int (nI P), .int (nI V)])), (apl, .inl (cI, 22, .inl pgf))]) (w1 := [(bk, .inr (0, [.ref alt, .ref abd, .ref aeg, .ref abr, .ref ask, .ref ash, .ref ast, .int (nI 0), .int 0])), (alt, .inl (cI, 5, .inl (cst (-1)))), (abd, .inl (cI, 5, .inl (cst 0))), (aeg, .inl (cI, 5, .inl (cst 0))), (abr, .inl (cI, 5, .inl (cst 0)))]) ⟨hx, hb, hml, hown, hts⟩ (c_X0_clear l D cI cZ cA _ bk alt abd aeg abr ask ash ast sn yr lt bd eg br ) (cwV 0 hts gX5_tower_X0_clear rfl rfl rfl (by decide +kernel) ⟨Nat.le_of_ble_eq_true rfl, Nat.le_of_ble_eq_true rfl⟩) hE hP hD hS hA [1, 2, 3, 4, 5] [0, 6, 7, 8, 9, 10, 11] rfl rfl rfl (by decide) (by decide) (by decide) 0 0 rfl rfl rfl hl.1 rfl (Nat.le_of_ble_eq_true rfl) dX5_tower_28 ⟨Nat.zero_le _, Nat.zero_le _⟩ (fun H locs hP hD hS => ?_)
    have hP : va_P D vwCl [(vd, .inr (5, [.ref pg, .ref co, .ref bk, .ref kb, .ref mt, .ref rn, .int im, .int tr])), (co, .inr (2, [.ref akd, .ref afa, .ref ahd, .int (nI (V / 3)), .int (nI (P - V))])), (akd, .inl (cI, 5, .inl (cpN (rdK pgf) kd (V / 3)))), (afa, .inl (cI, 5, .inl (cpN (rdF pgf) fa (V / 3)))), (ahd, .inl (cI, 5, .inl (cpN (rdH pgf V) hd (P - V)))), (pg, .inr (4, [.ref apl, .int (nI P), .int (nI V)])), (apl, .inl (cI, 22, .inl pgf)), (bk, .inr (0, [.ref alt, .ref abd, .ref aeg, .ref abr, .ref ask, .ref ash, .ref ast, .int (nI 0), .int 0])), (alt, .inl (cI, 5, .inl (cst (-1)))), (abd, .inl (cI, 5, .inl (cst 0))), (aeg, .inl (cI, 5, .inl (cst 0))), (abr, .inl (cI, 5, .inl (cst 0)))] H := hP
    have hD : va_D A [(vd, .inr (5, [.ref pg, .ref co, .ref bk, .ref kb, .ref mt, .ref rn, .int im, .int tr])), (co, .inr (2, [.ref akd, .ref afa, .ref ahd, .int (nI (V / 3)), .int (nI (P - V))])), (akd, .inl (cI, 5, .inl (cpN (rdK pgf) kd (V / 3)))), (afa, .inl (cI, 5, .inl (cpN (rdF pgf) fa (V / 3)))), (ahd, .inl (cI, 5, .inl (cpN (rdH pgf V) hd (P - V)))), (pg, .inr (4, [.ref apl, .int (nI P), .int (nI V)])), (apl, .inl (cI, 22, .inl pgf)), (bk, .inr (0, [.ref alt, .ref abd, .ref aeg, .ref abr, .ref ask, .ref ash, .ref ast, .int (nI 0), .int 0])), (alt, .inl (cI, 5, .inl (cst (-1)))), (abd, .inl (cI, 5, .inl (cst 0))), (aeg, .inl (cI, 5, .inl (cst 0))), (abr, .inl (cI, 5, .inl (cst 0)))] := hD
    refine lv_aload_n hx hb dX5_tower_31 rfl (lv_at hl 0 rfl) ?_
    refine lv_iconst (v := 0) hx hb dX5_tower_32 (by decide) ?_
    refine va_put (D := D) (ci := 5) (v := .int 0) (ty := .boolean) (C := RX5) (T := TX5) (N := 8) hx hb hts hinX5 tyX5 tyX5_ok nmX5 hown hE.1 hP hD hS 0 rfl rfl 6 (by decide) k_3 (fun _ h9 => h9) rfl (by decide +kernel) rfl rfl (Nat.le_of_ble_eq_true rfl) dX5_tower_33 (fun H locs hP hD hS => ?_)
    have hP : va_P D vwCl [(vd, .inr (5, [.ref pg, .ref co, .ref bk, .ref kb, .ref mt, .ref rn, .int 0, .int tr])), (co, .inr (2, [.ref akd, .ref afa, .ref ahd, .int (nI (V / 3)), .int (nI (P - V))])), (akd, .inl (cI, 5, .inl (cpN (rdK pgf) kd (V / 3)))), (afa, .inl (cI, 5, .inl (cpN (rdF pgf) fa (V / 3)))), (ahd, .inl (cI, 5, .inl (cpN (rdH pgf V) hd (P - V)))), (pg, .inr (4, [.ref apl, .int (nI P), .int (nI V)])), (apl, .inl (cI, 22, .inl pgf)), (bk, .inr (0, [.ref alt, .ref abd, .ref aeg, .ref abr, .ref ask, .ref ash, .ref ast, .int (nI 0), .int 0])), (alt, .inl (cI, 5, .inl (cst (-1)))), (abd, .inl (cI, 5, .inl (cst 0))), (aeg, .inl (cI, 5, .inl (cst 0))), (abr, .inl (cI, 5, .inl (cst 0)))] H := hP
    have hD : va_D A [(vd, .inr (5, [.ref pg, .ref co, .ref bk, .ref kb, .ref mt, .ref rn, .int 0, .int tr])), (co, .inr (2, [.ref akd, .ref afa, .ref ahd, .int (nI (V / 3)), .int (nI (P - V))])), (akd, .inl (cI, 5, .inl (cpN (rdK pgf) kd (V / 3)))), (afa, .inl (cI, 5, .inl (cpN (rdF pgf) fa (V / 3)))), (ahd, .inl (cI, 5, .inl (cpN (rdH pgf V) hd (P - V)))), (pg, .inr (4, [.ref apl, .int (nI P), .int (nI V)])), (apl, .inl (cI, 22, .inl pgf)), (bk, .inr (0, [.ref alt, .ref abd, .ref aeg, .ref abr, .ref ask, .ref ash, .ref ast, .int (nI 0), .int 0])), (alt, .inl (cI, 5, .inl (cst (-1)))), (abd, .inl (cI, 5, .inl (cst 0))), (aeg, .inl (cI, 5, .inl (cst 0))), (abr, .inl (cI, 5, .inl (cst 0)))] := hD
    refine lv_aload_n hx hb dX5_tower_36 rfl (lv_at hl 0 rfl) ?_
    refine lv_dup hx hb dX5_tower_37 rfl ?_
    refine va_get (D := D) (ci := 5) (v := .int tr) (C := RX5) (T := TX5) (N := 8) hx hb hts hinX5 hown hE.1 hP 0 rfl rfl 7 (by decide) k_4 (fun _ h9 => h9) rfl dX5_tower_38 ?_
    refine lv_iconst (v := 1) hx hb dX5_tower_41 (by decide) ?_
    refine lv_iadd hx hb dX5_tower_42 ?_
    refine va_put (D := D) (ci := 5) (v := .int (tr + 1)) (ty := .int) (C := RX5) (T := TX5) (N := 8) hx hb hts hinX5 tyX5 tyX5_ok nmX5 hown hE.1 hP hD hS 0 rfl rfl 7 (by decide) k_4 (fun _ h9 => h9) rfl (by decide +kernel) rfl rfl (Nat.le_of_ble_eq_true rfl) dX5_tower_43 (fun H locs hP hD hS => ?_)
    have hP : va_P D vwCl [(vd, .inr (5, [.ref pg, .ref co, .ref bk, .ref kb, .ref mt, .ref rn, .int 0, .int (tr + 1)])), (co, .inr (2, [.ref akd, .ref afa, .ref ahd, .int (nI (V / 3)), .int (nI (P - V))])), (akd, .inl (cI, 5, .inl (cpN (rdK pgf) kd (V / 3)))), (afa, .inl (cI, 5, .inl (cpN (rdF pgf) fa (V / 3)))), (ahd, .inl (cI, 5, .inl (cpN (rdH pgf V) hd (P - V)))), (pg, .inr (4, [.ref apl, .int (nI P), .int (nI V)])), (apl, .inl (cI, 22, .inl pgf)), (bk, .inr (0, [.ref alt, .ref abd, .ref aeg, .ref abr, .ref ask, .ref ash, .ref ast, .int (nI 0), .int 0])), (alt, .inl (cI, 5, .inl (cst (-1)))), (abd, .inl (cI, 5, .inl (cst 0))), (aeg, .inl (cI, 5, .inl (cst 0))), (abr, .inl (cI, 5, .inl (cst 0)))] H := hP
    have hD : va_D A [(vd, .inr (5, [.ref pg, .ref co, .ref bk, .ref kb, .ref mt, .ref rn, .int 0, .int (tr + 1)])), (co, .inr (2, [.ref akd, .ref afa, .ref ahd, .int (nI (V / 3)), .int (nI (P - V))])), (akd, .inl (cI, 5, .inl (cpN (rdK pgf) kd (V / 3)))), (afa, .inl (cI, 5, .inl (cpN (rdF pgf) fa (V / 3)))), (ahd, .inl (cI, 5, .inl (cpN (rdH pgf V) hd (P - V)))), (pg, .inr (4, [.ref apl, .int (nI P), .int (nI V)])), (apl, .inl (cI, 22, .inl pgf)), (bk, .inr (0, [.ref alt, .ref abd, .ref aeg, .ref abr, .ref ask, .ref ash, .ref ast, .int (nI 0), .int 0])), (alt, .inl (cI, 5, .inl (cst (-1)))), (abd, .inl (cI, 5, .inl (cst 0))), (aeg, .inl (cI, 5, .inl (cst 0))), (abr, .inl (cI, 5, .inl (cst 0)))] := hD
    refine lv_aload_n hx hb dX5_tower_46 rfl (lv_at hl 0 rfl) ?_
    refine va_get (D := D) (ci := 5) (v := .ref pg) (C := RX5) (T := TX5) (N := 8) hx hb hts hinX5 hown hE.1 hP 0 rfl rfl 0 (by decide) k_0 (fun _ h9 => h9) rfl dX5_tower_47 ?_
    refine lv_iconst (v := 0) hx hb dX5_tower_50 (by decide) ?_
    refine va_put (D := D) (ci := 4) (v := .int 0) (ty := .int) (C := RX4) (T := TX4) (N := 3) hx hb hts hinX4 tyX4 tyX4_ok nmX4 hown hE.1 hP hD hS 5 rfl rfl 1 (by decide) k_5 (fun _ h9 => h9) rfl (by decide +kernel) rfl rfl (Nat.le_of_ble_eq_true rfl) dX5_tower_51 (fun H locs hP hD hS => ?_)
    have hP : va_P D vwCl [(vd, .inr (5, [.ref pg, .ref co, .ref bk, .ref kb, .ref mt, .ref rn, .int 0, .int (tr + 1)])), (co, .inr (2, [.ref akd, .ref afa, .ref ahd, .int (nI (V / 3)), .int (nI (P - V))])), (akd, .inl (cI, 5, .inl (cpN (rdK pgf) kd (V / 3)))), (afa, .inl (cI, 5, .inl (cpN (rdF pgf) fa (V / 3)))), (ahd, .inl (cI, 5, .inl (cpN (rdH pgf V) hd (P - V)))), (pg, .inr (4, [.ref apl, .int 0, .int (nI V)])), (apl, .inl (cI, 22, .inl pgf)), (bk, .inr (0, [.ref alt, .ref abd, .ref aeg, .ref abr, .ref ask, .ref ash, .ref ast, .int (nI 0), .int 0])), (alt, .inl (cI, 5, .inl (cst (-1)))), (abd, .inl (cI, 5, .inl (cst 0))), (aeg, .inl (cI, 5, .inl (cst 0))), (abr, .inl (cI, 5, .inl (cst 0)))] H := hP
    have hD : va_D A [(vd, .inr (5, [.ref pg, .ref co, .ref bk, .ref kb, .ref mt, .ref rn, .int 0, .int (tr + 1)])), (co, .inr (2, [.ref akd, .ref afa, .ref ahd, .int (nI (V / 3)), .int (nI (P - V))])), (akd, .inl (cI, 5, .inl (cpN (rdK pgf) kd (V / 3)))), (afa, .inl (cI, 5, .inl (cpN (rdF pgf) fa (V / 3)))), (ahd, .inl (cI, 5, .inl (cpN (rdH pgf V) hd (P - V)))), (pg, .inr (4, [.ref apl, .int 0, .int (nI V)])), (apl, .inl (cI, 22, .inl pgf)), (bk, .inr (0, [.ref alt, .ref abd, .ref aeg, .ref abr, .ref ask, .ref ash, .ref ast, .int (nI 0), .int 0])), (alt, .inl (cI, 5, .inl (cst (-1)))), (abd, .inl (cI, 5, .inl (cst 0))), (aeg, .inl (cI, 5, .inl (cst 0))), (abr, .inl (cI, 5, .inl (cst 0)))] := hD
    refine lv_aload_n hx hb dX5_tower_54 rfl (lv_at hl 0 rfl) ?_
    refine va_get (D := D) (ci := 5) (v := .ref co) (C := RX5) (T := TX5) (N := 8) hx hb hts hinX5 hown hE.1 hP 0 rfl rfl 1 (by decide) k_1 (fun _ h9 => h9) rfl dX5_tower_55 ?_
    refine va_get (D := D) (ci := 2) (v := .int (nI (P - V))) (C := RX2) (T := TX2) (N := 5) hx hb hts hinX2 hown hE.1 hP 1 rfl rfl 4 (by decide) k_6 (fun _ h9 => h9) rfl dX5_tower_58 ?_
    have hP9 := hP.sub (ws' := [(vd, .inr (5, [.ref pg, .ref co, .ref bk, .ref kb, .ref mt, .ref rn, .int 0, .int (tr + 1)])), (pg, .inr (4, [.ref apl, .int (nI 0), .int (nI V)])), (apl, .inl (cI, 22, .inl pgf)), (co, .inr (2, [.ref akd, .ref afa, .ref ahd, .int (nI (V / 3)), .int (nI (P - V))])), (akd, .inl (cI, 5, .inl (cpN (rdK pgf) kd (V / 3)))), (afa, .inl (cI, 5, .inl (cpN (rdF pgf) fa (V / 3)))), (ahd, .inl (cI, 5, .inl (cpN (rdH pgf V) hd (P - V)))), (bk, .inr (0, [.ref alt, .ref abd, .ref aeg, .ref abr, .ref ask, .ref ash, .ref ast, .int (nI 0), .int 0])), (alt, .inl (cI, 5, .inl (cst (-1)))), (abd, .inl (cI, 5, .inl (cst 0))), (aeg, .inl (cI, 5, .inl (cst 0))), (abr, .inl (cI, 5, .inl (cst 0)))]) [0, 5, 6, 1, 2, 3, 4, 7, 8, 9, 10, 11] rfl
    have hD9 := hD.sub (ws' := [(vd, .inr (5, [.ref pg, .ref co, .ref bk, .ref kb, .ref mt, .ref rn, .int 0, .int (tr + 1)])), (pg, .inr (4, [.ref apl, .int (nI 0), .int (nI V)])), (apl, .inl (cI, 22, .inl pgf)), (co, .inr (2, [.ref akd, .ref afa, .ref ahd, .int (nI (V / 3)), .int (nI (P - V))])), (akd, .inl (cI, 5, .inl (cpN (rdK pgf) kd (V / 3)))), (afa, .inl (cI, 5, .inl (cpN (rdF pgf) fa (V / 3)))), (ahd, .inl (cI, 5, .inl (cpN (rdH pgf V) hd (P - V)))), (bk, .inr (0, [.ref alt, .ref abd, .ref aeg, .ref abr, .ref ask, .ref ash, .ref ast, .int (nI 0), .int 0])), (alt, .inl (cI, 5, .inl (cst (-1)))), (abd, .inl (cI, 5, .inl (cst 0))), (aeg, .inl (cI, 5, .inl (cst 0))), (abr, .inl (cI, 5, .inl (cst 0)))]) [0, 5, 6, 1, 2, 3, 4, 7, 8, 9, 10, 11] (by decide) rfl
    exact W.iret (v := nI (P - V)) hx hb hr (fun t ht hW => ⟨⟨(nI (P - V)), (), rfl, rfl, by rw [ht]; exact hP9, hD9⟩, hS.F ht⟩) hS.2.2 dX5_tower_61
  · have c_7 := zb_0 c_7
    exact absurd (⟨by rw [hsc], by rw [hsc]; exact (nI_ltI (a := 0) (b := V) (by omega) (by omega)).mpr (by omega), by rw [hsc]; show (2 : Int32) ≤ nI P - nI V; rw [pk_sub (by omega)]; exact (nI_leI (a := 2) (b := P - V) (by omega) (by omega)).mpr (by omega)⟩) c_7

set_option maxHeartbeats 1000000 in
set_option maxRecDepth 100000 in
theorem c_X5_tower0 (l : Launch) (D : va_G) (cI cZ cA : ClassId) (sz : Nat) (vd : Nat) (pg : Nat) (co : Nat) (bk : Nat) (kb : Nat) (mt : Nat) (rn : Nat) (im : Int32) (tr : Int32) (apl : Nat) (P : Nat) (vb : Int32) (pgf : Nat → Int32) (aK : Nat) (aV : Nat) (hP22 : P ≤ 22) (hno : ¬ ((scC pgf P).1 = P ∧ 0 < (scC pgf P).2 ∧ 2 ≤ nI P - (scC pgf P).2)) : Met l yX5_tower wsX5_tower (zr 8) (va_Pc [.ref vd] (zPs D cI cZ cA [(vd, .inr (5, [.ref pg, .ref co, .ref bk, .ref kb, .ref mt, .ref rn, .int im, .int tr])), (pg, .inr (4, [.ref apl, .int (nI P), .int vb])), (apl, .inl (cI, 22, .inl pgf))] sz aK aV)) (va_Qi (fun (r : Int32) (_ : Unit) => r = (-103)) (zB D [(vd, .inr (5, [.ref pg, .ref co, .ref bk, .ref kb, .ref mt, .ref rn, .int im, .int tr])), (pg, .inr (4, [.ref apl, .int (nI P), .int ((scC pgf P).2)])), (apl, .inl (cI, 22, .inl pgf))] (va_A [(vd, .inr (5, [.ref pg, .ref co, .ref bk, .ref kb, .ref mt, .ref rn, .int im, .int tr])), (pg, .inr (4, [.ref apl, .int (nI P), .int vb])), (apl, .inl (cI, 22, .inl pgf))] sz)) (va_A [(vd, .inr (5, [.ref pg, .ref co, .ref bk, .ref kb, .ref mt, .ref rn, .int im, .int tr])), (pg, .inr (4, [.ref apl, .int (nI P), .int vb])), (apl, .inl (cI, 22, .inl pgf))] sz)) 0 0 (va_A [(vd, .inr (5, [.ref pg, .ref co, .ref bk, .ref kb, .ref mt, .ref rn, .int im, .int tr])), (pg, .inr (4, [.ref apl, .int (nI P), .int vb])), (apl, .inl (cI, 22, .inl pgf))] sz) := by
  refine Met.ofW (cc := cX5_tower) (maxL := 1) (ret := (some .int)) (by decide) rfl ?_
  intro p e s m args below meth c s₁ B hml hv
  obtain ⟨rfl, ⟨hsz, hP, hD0, hE⟩, hST⟩ := hv
  have hx := B.exec
  have hb := B.bytes
  have hr := B.returns
  have hts := atoms_spec (ws := wsX5_tower) B.pre
  have hown : s.vm.findClass RX5 = some m.cls := findClass_of_methodNamed B.named
  have hlocks := B.notSynchronized
  subst hsz
  have hD := hD0.self (sz := s.heap.size)
  generalize hAe : va_A [(vd, .inr (5, [.ref pg, .ref co, .ref bk, .ref kb, .ref mt, .ref rn, .int im, .int tr])), (pg, .inr (4, [.ref apl, .int (nI P), .int vb])), (apl, .inl (cI, 22, .inl pgf))] s.heap.size = A at hD hST ⊢
  have hA : ∀ q : Nat, s.heap.size ≤ q → A q := fun q h => by rw [← hAe]; exact Or.inr h
  have hS : va_S A s.heap s.heap [] := va_S.rf
  have hP : va_P D vwCl [(vd, .inr (5, [.ref pg, .ref co, .ref bk, .ref kb, .ref mt, .ref rn, .int im, .int tr])), (pg, .inr (4, [.ref apl, .int (nI P), .int vb])), (apl, .inl (cI, 22, .inl pgf))] s.heap := hP
  have hD : va_D A [(vd, .inr (5, [.ref pg, .ref co, .ref bk, .ref kb, .ref mt, .ref rn, .int im, .int tr])), (pg, .inr (4, [.ref apl, .int (nI P), .int vb])), (apl, .inl (cI, 22, .inl pgf))] := hD
  have hl := lv_entry ([.ref vd]) (n := 1) (Nat.le_of_ble_eq_true rfl)
  rw [lg_entry_eq]
  generalize (lg_sl ([.ref vd]) ++ List.replicate (1 - (lg_sl ([.ref vd])).length) Slot.unset).toArray = ls at hl ⊢
  have hl : lv_has ls 1 [(0, .ref vd)] := hl
  have hinX5 : ∀ w ∈ wsX50, w ∈ wsX5_tower := fun w h => List.mem_cons_of_mem _ (List.mem_append_left _ (List.mem_append_left _ (List.mem_append_left _ (List.mem_append_right _ h))))
  have k_0 := hts (.fieldLink RX5 10 "VowDoves" "page" "LVowDoves$Page;") (by decide +kernel)
  refine lv_aload_n hx hb dX5_tower_0 rfl (lv_at hl 0 rfl) ?_
  refine va_get (D := D) (ci := 5) (v := .ref pg) (C := RX5) (T := TX5) (N := 8) hx hb hts hinX5 hown hE.1 hP 0 rfl rfl 0 (by decide) k_0 (fun _ h9 => h9) rfl dX5_tower_1 ?_
  refine z_rsVi (As := []) (rest := []) (wr := [(vd, .inr (5, [.ref pg, .ref co, .ref bk, .ref kb, .ref mt, .ref rn, .int im, .int tr]))]) (w1 := [(pg, .inr (4, [.ref apl, .int (nI P), .int ((scC pgf P).2)])), (apl, .inl (cI, 22, .inl pgf))]) ⟨hx, hb, hml, hown, hts⟩ (c_X4_isTower l D cI cZ cA _ pg apl P vb pgf aK aV (by first | assumption | omega)) (cwV 0 hts gX5_tower_X4_isTower rfl rfl rfl (by decide +kernel) ⟨Nat.le_of_ble_eq_true rfl, Nat.le_of_ble_eq_true rfl⟩) hE hST hP hD hS hA [1, 2] [0] rfl rfl rfl (by decide) (by decide) (by decide) 0 4 rfl rfl rfl hl.1 rfl (Nat.le_of_ble_eq_true rfl) dX5_tower_4 ⟨Nat.zero_le _, Nat.zero_le _⟩ (fun H locs hP hD hS => ?_)
  have hP : va_P D vwCl [(vd, .inr (5, [.ref pg, .ref co, .ref bk, .ref kb, .ref mt, .ref rn, .int im, .int tr])), (pg, .inr (4, [.ref apl, .int (nI P), .int ((scC pgf P).2)])), (apl, .inl (cI, 22, .inl pgf))] H := hP
  have hD : va_D A [(vd, .inr (5, [.ref pg, .ref co, .ref bk, .ref kb, .ref mt, .ref rn, .int im, .int tr])), (pg, .inr (4, [.ref apl, .int (nI P), .int ((scC pgf P).2)])), (apl, .inl (cI, 22, .inl pgf))] := hD
  refine lv_if_ne (tgt := 13) hx hb dX5_tower_7 (by decide) (fun c_7 => ?_) (fun c_7 => ?_)
  · have c_7 := zb_1 c_7
    exact absurd c_7 hno
  · have c_7 := zb_0 c_7
    refine lv_bipush (v := (-103)) hx hb dX5_tower_10 (by decide) ?_
    have hP9 := hP.sub (ws' := [(vd, .inr (5, [.ref pg, .ref co, .ref bk, .ref kb, .ref mt, .ref rn, .int im, .int tr])), (pg, .inr (4, [.ref apl, .int (nI P), .int ((scC pgf P).2)])), (apl, .inl (cI, 22, .inl pgf))]) [0, 1, 2] rfl
    have hD9 := hD.sub (ws' := [(vd, .inr (5, [.ref pg, .ref co, .ref bk, .ref kb, .ref mt, .ref rn, .int im, .int tr])), (pg, .inr (4, [.ref apl, .int (nI P), .int ((scC pgf P).2)])), (apl, .inl (cI, 22, .inl pgf))]) [0, 1, 2] (by decide) rfl
    exact W.iret (v := (-103)) hx hb hr (fun t ht hW => ⟨⟨(-103), (), rfl, rfl, by rw [ht]; exact hP9, hD9⟩, hS.F ht⟩) hS.2.2 dX5_tower_12
