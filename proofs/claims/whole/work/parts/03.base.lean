/-! BASE: the room by levels, the environment of every contract, rows for calls (read-only and writing), array rows by natural places -/
def zr (d : Nat) : Room := { frames := d, cells := 0, slots := 0, locals := 40 * d }
def zb (P : Prop) [Decidable P] : Int32 := if P then 1 else 0
theorem zb_t {P : Prop} [Decidable P] (h : P) : zb P = 1 := if_pos h
theorem zb_f {P : Prop} [Decidable P] (h : ¬ P) : zb P = 0 := if_neg h
theorem zb_0 {P : Prop} [Decidable P] (h : zb P = 0) : ¬ P := fun q => by
  rw [zb_t q] at h
  exact absurd h (by decide)
theorem zb_1 {P : Prop} [Decidable P] (h : ¬ zb P = 0) : P := by
  by_cases q : P
  · exact q
  · exact absurd (zb_f q) h
theorem zb_nar {P : Prop} [Decidable P] : narrow .boolean (.int (zb P)) = .int (zb P) := by
  by_cases q : P
  · rw [zb_t q]; rfl
  · rw [zb_f q]; rfl
theorem zb_fit {P : Prop} [Decidable P] : fits .boolean (.int (zb P)) = true := by
  by_cases q : P
  · rw [zb_t q]; rfl
  · rw [zb_f q]; rfl
theorem zb_c {P Q : Prop} [Decidable P] [Decidable Q] (h : P ↔ Q) : zb P = zb Q := by
  by_cases q : P
  · rw [zb_t q, zb_t (h.mp q)]
  · rw [zb_f q, zb_f (fun z => q (h.mpr z))]
abbrev zty (cI cZ cA : ClassId) : List (ClassId × FieldType) := [(cI, .int), (cZ, .boolean), (cA, .array .int)]
/-- the links to members of nest mates -/
def zNw (U : State) : Prop := va_Nw (.methodLinkNest RX5 9 yX4_init RX5) U ∧ va_Nw (.methodLinkNest RX5 18 yX2_init RX5) U ∧ va_Nw (.methodLinkNest RX5 35 yX3_init RX5) U ∧ va_Nw (.methodLinkNest RX5 42 yX1_init RX5) U ∧ va_Nw (.methodLinkNest RX2 57 yX5_yearsKeptBy RX5) U ∧ va_Nw (.methodLinkNest RX2 61 yX5_isOfKind RX5) U ∧ va_Nw (.methodLinkNest RX1 47 yX5_sum RX5) U
theorem zNw.warm {s U : State} (hW : s.WarmedH U.vm) (h : zNw s) : zNw U := ⟨va_Nw.warmM hW h.1, va_Nw.warmM hW h.2.1, va_Nw.warmM hW h.2.2.1, va_Nw.warmM hW h.2.2.2.1, va_Nw.warmM hW h.2.2.2.2.1, va_Nw.warmM hW h.2.2.2.2.2.1, va_Nw.warmM hW h.2.2.2.2.2.2⟩
theorem zNw.same {s U : State} (hv : s.vm = U.vm) (h : zNw s) : zNw U := ⟨va_Nw.same rfl hv h.1, va_Nw.same rfl hv h.2.1, va_Nw.same rfl hv h.2.2.1, va_Nw.same rfl hv h.2.2.2.1, va_Nw.same rfl hv h.2.2.2.2.1, va_Nw.same rfl hv h.2.2.2.2.2.1, va_Nw.same rfl hv h.2.2.2.2.2.2⟩
/-- the environment: classes, array classes, nest links -/
def zE (D : va_G) (cI cZ cA : ClassId) (U : State) : Prop := va_K D vwCl (zty cI cZ cA) U ∧ zNw U
theorem zE.warm {D : va_G} {cI cZ cA : ClassId} {s U : State} (hW : s.WarmedH U.vm) (h : zE D cI cZ cA s) : zE D cI cZ cA U := ⟨va_K.moved hW.alike h.1, h.2.warm hW⟩
theorem zE.call {D : va_G} {cI cZ cA : ClassId} {U : State} {g : JFrame} {mk : MethodId} {a : Array Value} (h : zE D cI cZ cA U) : zE D cI cZ cA (U.calling g mk a) := ⟨va_K.moved (u := U) (U := U.calling g mk a) (Vm.Alike.refl U.vm) h.1, zNw.same (s := U) (U := U.calling g mk a) rfl h.2⟩
/-- a read-only method's start -/
def zPr (D : va_G) (cI cZ cA : ClassId) (ws : va_W) (U : State) : Prop := va_P D vwCl ws U.heap ∧ zE D cI cZ cA U
/-- a writing method's start -/
def zPw (D : va_G) (cI cZ cA : ClassId) (ws : va_W) (sz : Nat) (U : State) : Prop := U.heap.size = sz ∧ va_P D vwCl ws U.heap ∧ va_D (fun _ => True) ws ∧ zE D cI cZ cA U
theorem zPr.blind {D : va_G} {cI cZ cA : ClassId} {ws : va_W} {av : List Value} : FrameBlind (va_Pc av (zPr D cI cZ cA ws)) := fun a U g mk q => ⟨q.1, q.2.1, q.2.2.call⟩
theorem zPw.blind {D : va_G} {cI cZ cA : ClassId} {ws : va_W} {sz : Nat} {av : List Value} : FrameBlind (va_Pc av (zPw D cI cZ cA ws sz)) := fun a U g mk q => ⟨q.1, q.2.1, q.2.2.1, q.2.2.2.1, q.2.2.2.2.call⟩
/-- a writing method's end -/
def zB (D : va_G) (ws' : va_W) (A : Nat → Prop) : Unit → State → Prop := fun _ t => va_P D vwCl ws' t.heap ∧ va_D A ws'
theorem za_i {a : Nat} {i : Int32} {n : Nat} (hi : i = nI a) (ha : a < n) (hn : n < 2 ^ 31) : vp_in i n ∧ i.toNatClampNeg = a := by
  subst hi
  exact ⟨vp_in_nI ha hn, nI_clamp (by omega)⟩
theorem z_add {x y : Int32} {a b : Nat} (hx : x = nI a) (hy : y = nI b) : x + y = nI (a + b) := by rw [hx, hy, nI_add]
theorem z_mul {x y : Int32} {a b : Nat} (hx : x = nI a) (hy : y = nI b) : x * y = nI (a * b) := by rw [hx, hy, pk_mul]
theorem z_sub {x y : Int32} {a b : Nat} (hx : x = nI a) (hy : y = nI b) (h : b ≤ a) : x - y = nI (a - b) := by rw [hx, hy, pk_sub h]
theorem zn_le {x y : Int32} {a b : Nat} (hx : x = nI a) (hy : y = nI b) (h : x ≤ y) (ha : a < 2 ^ 31) (hb : b < 2 ^ 31) : a ≤ b := (nI_leI ha hb).mp (by rw [← hx, ← hy]; exact h)
theorem zn_nle {x y : Int32} {a b : Nat} (hx : x = nI a) (hy : y = nI b) (h : ¬ x ≤ y) (ha : a < 2 ^ 31) (hb : b < 2 ^ 31) : b < a := Nat.lt_of_not_le (fun q => h (by rw [hx, hy]; exact (nI_leI ha hb).mpr q))
theorem zn_lt {x y : Int32} {a b : Nat} (hx : x = nI a) (hy : y = nI b) (h : x < y) (ha : a < 2 ^ 31) (hb : b < 2 ^ 31) : a < b := (nI_ltI ha hb).mp (by rw [← hx, ← hy]; exact h)
theorem zn_nlt {x y : Int32} {a b : Nat} (hx : x = nI a) (hy : y = nI b) (h : ¬ x < y) (ha : a < 2 ^ 31) (hb : b < 2 ^ 31) : b ≤ a := Nat.le_of_not_lt (fun q => h (by rw [hx, hy]; exact (nI_ltI ha hb).mpr q))
theorem zn_eq {x y : Int32} {a b : Nat} (hx : x = nI a) (hy : y = nI b) (h : x = y) (ha : a < 2 ^ 31) (hb : b < 2 ^ 31) : a = b := (nI_eq ha hb).mp (by rw [← hx, ← hy]; exact h)
theorem zn_ne {x y : Int32} {a b : Nat} (hx : x = nI a) (hy : y = nI b) (h : ¬ x = y) (ha : a < 2 ^ 31) (hb : b < 2 ^ 31) : a ≠ b := fun q => h (by rw [hx, hy, q])
theorem z_ix {k : Int32} {K : Nat} (h : ¬ k < 0 ∧ k < nI K) (hK : K < 2 ^ 31) : ∃ j : Nat, j < K ∧ k = nI j := by
  obtain ⟨j, hj, rfl⟩ := nI_of h.1
  exact ⟨j, (nI_ltI hj hK).mp h.2, rfl⟩
theorem z_ixn {j K : Nat} (h : j < K) (hK : K < 2 ^ 31) : ¬ nI j < 0 ∧ nI j < nI K := ⟨nI_pos (by omega), (nI_ltI (by omega) hK).mpr h⟩
theorem zl_eq {x y : Int64} (h : lg_cmp x y = 0) : x = y := by
  unfold lg_cmp at h
  by_cases q : x > y
  · rw [if_pos q] at h; exact absurd h (by decide)
  · rw [if_neg q] at h
    by_cases q2 : x = y
    · exact q2
    · rw [if_neg q2] at h; exact absurd h (by decide)
theorem zl_ne {x y : Int64} (h : ¬ lg_cmp x y = 0) : ¬ x = y := fun q => h (by
  subst q
  simp [lg_cmp])
theorem zsw {x : Int32} {n : Nat} (h : ∀ j : Nat, j ≤ n → ¬ x = nI j) (hn : n < 2 ^ 30) : x.toInt < 0 ∨ (n : Int) < x.toInt := by
  rcases pk_ix x (n := n + 1) (by omega) with q | q | ⟨j, hj, e⟩
  · left
    simpa using Int32.lt_iff_toInt_lt.mp q
  · right
    have h1 := Int32.le_iff_toInt_le.mp q
    rw [nI_toInt (by omega)] at h1
    omega
  · exact absurd e (h j (by omega))
section ZROWS
variable {p : Program} {l : Launch} {e : Env} {R : Room} {s : State} {m : MethodId} {args : Array Value} {below : List Frame} {meth : Method} {c : Code} {H : Heap} {locs : List Loc} {cells slots : Nat} {Q : State → Prop}
variable {cc bytes : ByteArray} {pc nL maxL n index : Nat} {ls : Array Slot} {rest As st0 : List Value} {D : va_G} {cI cZ cA : ClassId} {A : Nat → Prop} {a b : Nat} {ws wc wr w1 : va_W} {H0 : Heap} {Ts wsY ws' : List Cond} {own C host : String} {y : MethodName} {ret : Option FieldType} {rm : Room}
theorem z_iaddN (hexec : p.tables.exec = Jvm.exec) (hb : c.code = cc) {x y : Int32} {a b : Nat} (hx : x = nI a) (hy : y = nI b) (hdg : decode cc pc = .ok (.iadd, 1)) (k : W p l e R s m args below meth c H locs cells slots Q (F0 m (pc + 1) ls (.int (nI (a + b)) :: rest))) : W p l e R s m args below meth c H locs cells slots Q (F0 m pc ls (.int y :: .int x :: rest)) := lv_iadd hexec hb hdg (by rw [hx, hy, nI_add]; exact k)
theorem z_imulN (hexec : p.tables.exec = Jvm.exec) (hb : c.code = cc) {x y : Int32} {a b : Nat} (hx : x = nI a) (hy : y = nI b) (hdg : decode cc pc = .ok (.imul, 1)) (k : W p l e R s m args below meth c H locs cells slots Q (F0 m (pc + 1) ls (.int (nI (a * b)) :: rest))) : W p l e R s m args below meth c H locs cells slots Q (F0 m pc ls (.int y :: .int x :: rest)) := lv_imul hexec hb hdg (by rw [hx, hy, pk_mul]; exact k)
theorem z_isubN (hexec : p.tables.exec = Jvm.exec) (hb : c.code = cc) {x y : Int32} {a b : Nat} (hx : x = nI a) (hy : y = nI b) (h : b ≤ a) (hdg : decode cc pc = .ok (.isub, 1)) (k : W p l e R s m args below meth c H locs cells slots Q (F0 m (pc + 1) ls (.int (nI (a - b)) :: rest))) : W p l e R s m args below meth c H locs cells slots Q (F0 m pc ls (.int y :: .int x :: rest)) := lv_isub hexec hb hdg (by rw [hx, hy, pk_sub h]; exact k)
theorem z_idivN (hexec : p.tables.exec = Jvm.exec) (hb : c.code = cc) {x y : Int32} {a b : Nat} (hx : x = nI a) (hy : y = nI b) (ha : a < 2 ^ 31) (h0 : 0 < b) (hb1 : b < 2 ^ 31) (hdg : decode cc pc = .ok (.idiv, 1)) (k : W p l e R s m args below meth c H locs cells slots Q (F0 m (pc + 1) ls (.int (nI (a / b)) :: rest))) : W p l e R s m args below meth c H locs cells slots Q (F0 m pc ls (.int y :: .int x :: rest)) := lv_idiv hexec hb hdg (by rw [hy]; exact nI_ne0 h0 hb1) (by rw [hx, hy, pk_div ha h0 hb1]; exact k)
theorem z_iremN (hexec : p.tables.exec = Jvm.exec) (hb : c.code = cc) {x y : Int32} {a b : Nat} (hx : x = nI a) (hy : y = nI b) (ha : a < 2 ^ 31) (h0 : 0 < b) (hb1 : b < 2 ^ 31) (hdg : decode cc pc = .ok (.irem, 1)) (k : W p l e R s m args below meth c H locs cells slots Q (F0 m (pc + 1) ls (.int (nI (a % b)) :: rest))) : W p l e R s m args below meth c H locs cells slots Q (F0 m pc ls (.int y :: .int x :: rest)) := lv_irem hexec hb hdg (by rw [hy]; exact nI_ne0 h0 hb1) (by rw [hx, hy, pk_rem ha h0 hb1]; exact k)
theorem z_iald (hexec : p.tables.exec = Jvm.exec) (hb : c.code = cc) (hE : zE D cI cZ cA s) (hP : va_P D vwCl ws H) (q0 : Nat) {N : Nat} {f : Nat → Int32} (ha : ws[q0]? = some (a, .inl (cI, N, .inl f))) {i : Int32} {j : Nat} (hi : i = nI j) (hj : j < N) (hN : N < 2 ^ 31) (hdg : decode cc pc = .ok (.iaload, 1))
    (kk : W p l e R s m args below meth c H locs cells slots Q (F0 m (pc + 1) ls (.int (f j) :: rest))) : W p l e R s m args below meth c H locs cells slots Q (F0 m pc ls (.int i :: .ref a :: rest)) := by
  obtain ⟨h1, h2⟩ := za_i hi hj hN
  exact va_iald hexec hb hE.1 hP q0 0 ha rfl h1 hdg (by rw [h2]; exact kk)
theorem z_zald (hexec : p.tables.exec = Jvm.exec) (hb : c.code = cc) (hE : zE D cI cZ cA s) (hP : va_P D vwCl ws H) (q0 : Nat) {N : Nat} {f : Nat → Int32} (ha : ws[q0]? = some (a, .inl (cZ, N, .inl f))) {i : Int32} {j : Nat} (hi : i = nI j) (hj : j < N) (hN : N < 2 ^ 31) (hdg : decode cc pc = .ok (.baload, 1))
    (kk : W p l e R s m args below meth c H locs cells slots Q (F0 m (pc + 1) ls (.int (f j) :: rest))) : W p l e R s m args below meth c H locs cells slots Q (F0 m pc ls (.int i :: .ref a :: rest)) := by
  obtain ⟨h1, h2⟩ := za_i hi hj hN
  exact va_zald hexec hb hE.1 hP q0 1 ha rfl h1 hdg (by rw [h2]; exact kk)
theorem z_aald (hexec : p.tables.exec = Jvm.exec) (hb : c.code = cc) (hE : zE D cI cZ cA s) (hP : va_P D vwCl ws H) (q0 : Nat) {N : Nat} {f : Nat → Option Nat} (ha : ws[q0]? = some (a, .inl (cA, N, .inr (.inr (.inr (.inr f)))))) {i : Int32} {j : Nat} (hi : i = nI j) (hj : j < N) (hN : N < 2 ^ 31) {v : Nat} (hv : f j = some v) (hdg : decode cc pc = .ok (.aaload, 1))
    (kk : W p l e R s m args below meth c H locs cells slots Q (F0 m (pc + 1) ls (.ref v :: rest))) : W p l e R s m args below meth c H locs cells slots Q (F0 m pc ls (.int i :: .ref a :: rest)) := by
  obtain ⟨h1, h2⟩ := za_i hi hj hN
  have hlt : i.toNatClampNeg < N := by rw [h2]; exact hj
  exact W.aald (v := va_rf (f i.toNatClampNeg)) (ty := .array .int) hexec hb (hP q0 _ ha) ((hE.1.2 2 _ rfl).1 N (fun j => va_rf (f j))) rfl (fun q => by cases q) (by show ¬ (i < 0 ∨ (arrV _ _ _).slots.size ≤ _); rw [arrV_size]; exact h1) (by show (arrV _ _ _).slots[_]? = _; rw [arrV_read _ _ hlt]) rfl rfl hdg (by rw [h2, hv]; exact kk)
theorem z_alen (hexec : p.tables.exec = Jvm.exec) (hb : c.code = cc) (hE : zE D cI cZ cA s) (hP : va_P D vwCl ws H) (q0 : Nat) {N : Nat} {f : Nat → Int32} (ha : ws[q0]? = some (a, .inl (cI, N, .inl f))) (hdg : decode cc pc = .ok (.arraylength, 1))
    (kk : W p l e R s m args below meth c H locs cells slots Q (F0 m (pc + 1) ls (.int (nI N) :: rest))) : W p l e R s m args below meth c H locs cells slots Q (F0 m pc ls (.ref a :: rest)) :=
  va_alen hexec hb hE.1 hP q0 0 ha (ty := .int) rfl rfl hdg kk
theorem z_iast (hexec : p.tables.exec = Jvm.exec) (hb : c.code = cc) (hE : zE D cI cZ cA s) (hP : va_P D vwCl ws H) (hD : va_D A ws) (hS : va_S A H0 H locs) (q0 : Nat) {N : Nat} {f : Nat → Int32} (ha : ws[q0]? = some (a, .inl (cI, N, .inl f))) {i x : Int32} {j : Nat} (hi : i = nI j) (hj : j < N) (hN : N < 2 ^ 31) (hdg : decode cc pc = .ok (.iastore, 1))
    (kk : ∀ (H1 : Heap) (locs1 : List Loc), va_P D vwCl (ws.set q0 (a, .inl (cI, N, .inl (upd f j x)))) H1 → va_D A (ws.set q0 (a, .inl (cI, N, .inl (upd f j x)))) → va_S A H0 H1 locs1 → W p l e R s m args below meth c H1 locs1 cells slots Q (F0 m (pc + 1) ls rest)) : W p l e R s m args below meth c H locs cells slots Q (F0 m pc ls (.int x :: .int i :: .ref a :: rest)) := by
  obtain ⟨h1, h2⟩ := za_i hi hj hN
  exact va_iast hexec hb hE.1 hP hD hS q0 0 ha rfl h1 hdg (by rw [h2]; exact kk)
theorem z_zast (hexec : p.tables.exec = Jvm.exec) (hb : c.code = cc) (hE : zE D cI cZ cA s) (hP : va_P D vwCl ws H) (hD : va_D A ws) (hS : va_S A H0 H locs) (q0 : Nat) {N : Nat} {f : Nat → Int32} (ha : ws[q0]? = some (a, .inl (cZ, N, .inl f))) {i x : Int32} {j : Nat} (hi : i = nI j) (hj : j < N) (hN : N < 2 ^ 31) (hx : vp_nar .boolean x = x) (hdg : decode cc pc = .ok (.bastore, 1))
    (kk : ∀ (H1 : Heap) (locs1 : List Loc), va_P D vwCl (ws.set q0 (a, .inl (cZ, N, .inl (upd f j x)))) H1 → va_D A (ws.set q0 (a, .inl (cZ, N, .inl (upd f j x)))) → va_S A H0 H1 locs1 → W p l e R s m args below meth c H1 locs1 cells slots Q (F0 m (pc + 1) ls rest)) : W p l e R s m args below meth c H locs cells slots Q (F0 m pc ls (.int x :: .int i :: .ref a :: rest)) := by
  obtain ⟨h1, h2⟩ := za_i hi hj hN
  exact va_zast hexec hb hE.1 hP hD hS q0 1 ha rfl h1 hdg (by rw [h2, hx]; exact kk)
/-- read-only calls -/
theorem z_roVi {v : Int32} (S : CallFix p m c cc nL s args Ts own) (hM : Met l y wsY rm (va_Pc (.ref b :: As) (zPr D cI cZ cA wc)) (vp_Si (fun r => r = v)) 0 0 (fun _ => False)) (cw : CallW R s args own C index y bytes maxL ret wsY rm 0 0 n) (hE : zE D cI cZ cA s) (hP : va_P D vwCl ws H) (is : List Nat) (hs : is.filterMap (fun i => ws[i]?) = wc) (q0 ci : Nat) {T : u_T} {N : Nat} {fs : List Value} (hc : vwCl[ci]? = some (C, T, N)) (hq : wc[q0]? = some (b, .inr (ci, fs)))
    (hn : As.length = n) (hsize : ls.size = nL) (hst : st0 = As.reverse ++ .ref b :: rest) (hW : (rest.map fun v => v.category).sum ≤ 8) (hdg : decode cc pc = .ok (.invokevirtual index, 3)) (hf : cells + 0 ≤ R.cells ∧ slots + 0 ≤ R.slots)
    (kk : W p l e R s m args below meth c H locs cells slots Q (F0 m (pc + 3) ls (.int v :: rest))) : W p l e R s m args below meth c H locs cells slots Q (F0 m pc ls st0) := by
  have hPc := hP.sub is hs
  exact vp_callSi (va_Run.run (va_runV S hM cw ⟨zPr.blind, va_recv hE.1 hPc hc hq, fun U hU hWm => ⟨rfl, by rw [hU]; exact hPc, hE.warm hWm⟩⟩ rfl hn hsize hst (lv_room (m := m) (pc := pc) (ls := ls) (rest := rest) hW) hdg hf)) (fun r hr => by rw [hr]; exact kk)
theorem z_roVl {v : Int64} (S : CallFix p m c cc nL s args Ts own) (hM : Met l y wsY rm (va_Pc (.ref b :: As) (zPr D cI cZ cA wc)) (vp_Sl (fun r => r = v)) 0 0 (fun _ => False)) (cw : CallW R s args own C index y bytes maxL ret wsY rm 0 0 n) (hE : zE D cI cZ cA s) (hP : va_P D vwCl ws H) (is : List Nat) (hs : is.filterMap (fun i => ws[i]?) = wc) (q0 ci : Nat) {T : u_T} {N : Nat} {fs : List Value} (hc : vwCl[ci]? = some (C, T, N)) (hq : wc[q0]? = some (b, .inr (ci, fs)))
    (hn : As.length = n) (hsize : ls.size = nL) (hst : st0 = As.reverse ++ .ref b :: rest) (hW : (rest.map fun v => v.category).sum ≤ 8) (hdg : decode cc pc = .ok (.invokevirtual index, 3)) (hf : cells + 0 ≤ R.cells ∧ slots + 0 ≤ R.slots)
    (kk : W p l e R s m args below meth c H locs cells slots Q (F0 m (pc + 3) ls (.long v :: rest))) : W p l e R s m args below meth c H locs cells slots Q (F0 m pc ls st0) := by
  have hPc := hP.sub is hs
  exact vp_callSl (va_Run.run (va_runV S hM cw ⟨zPr.blind, va_recv hE.1 hPc hc hq, fun U hU hWm => ⟨rfl, by rw [hU]; exact hPc, hE.warm hWm⟩⟩ rfl hn hsize hst (lv_room (m := m) (pc := pc) (ls := ls) (rest := rest) hW) hdg hf)) (fun r hr => by rw [hr]; exact kk)
theorem z_roSi {v : Int32} (S : CallFix p m c cc nL s args Ts own) (hM : Met l y wsY rm (va_Pc As (zPr D cI cZ cA wc)) (vp_Si (fun r => r = v)) 0 0 (fun _ => False)) (cw : CallB R s args own index y bytes maxL ret wsY rm 0 0 n ∧ (Cond.static y).before args s = true) (hE : zE D cI cZ cA s) (hP : va_P D vwCl ws H) (is : List Nat) (hs : is.filterMap (fun i => ws[i]?) = wc)
    (hn : As.length = n) (hsize : ls.size = nL) (hst : st0 = As.reverse ++ rest) (hW : (rest.map fun v => v.category).sum ≤ 8) (hdg : decode cc pc = .ok (.invokestatic index, 3)) (hf : cells + 0 ≤ R.cells ∧ slots + 0 ≤ R.slots)
    (kk : W p l e R s m args below meth c H locs cells slots Q (F0 m (pc + 3) ls (.int v :: rest))) : W p l e R s m args below meth c H locs cells slots Q (F0 m pc ls st0) := by
  have hPc := hP.sub is hs
  exact vp_callSi (va_Run.run (va_runS S hM cw ⟨zPr.blind, fun U hU hWm => ⟨rfl, by rw [hU]; exact hPc, hE.warm hWm⟩⟩ rfl hn hsize hst (lv_room (m := m) (pc := pc) (ls := ls) (rest := rest) hW) hdg hf)) (fun r hr => by rw [hr]; exact kk)
theorem z_roSl {v : Int64} (S : CallFix p m c cc nL s args Ts own) (hM : Met l y wsY rm (va_Pc As (zPr D cI cZ cA wc)) (vp_Sl (fun r => r = v)) 0 0 (fun _ => False)) (cw : CallB R s args own index y bytes maxL ret wsY rm 0 0 n ∧ (Cond.static y).before args s = true) (hE : zE D cI cZ cA s) (hP : va_P D vwCl ws H) (is : List Nat) (hs : is.filterMap (fun i => ws[i]?) = wc)
    (hn : As.length = n) (hsize : ls.size = nL) (hst : st0 = As.reverse ++ rest) (hW : (rest.map fun v => v.category).sum ≤ 8) (hdg : decode cc pc = .ok (.invokestatic index, 3)) (hf : cells + 0 ≤ R.cells ∧ slots + 0 ≤ R.slots)
    (kk : W p l e R s m args below meth c H locs cells slots Q (F0 m (pc + 3) ls (.long v :: rest))) : W p l e R s m args below meth c H locs cells slots Q (F0 m pc ls st0) := by
  have hPc := hP.sub is hs
  exact vp_callSl (va_Run.run (va_runS S hM cw ⟨zPr.blind, fun U hU hWm => ⟨rfl, by rw [hU]; exact hPc, hE.warm hWm⟩⟩ rfl hn hsize hst (lv_room (m := m) (pc := pc) (ls := ls) (rest := rest) hW) hdg hf)) (fun r hr => by rw [hr]; exact kk)
theorem z_roNi {v : Int32} (S : CallFix p m c cc nL s args Ts own) (hM : Met l y wsY rm (va_Pc As (zPr D cI cZ cA wc)) (vp_Si (fun r => r = v)) 0 0 (fun _ => False)) (cw : va_CN R s args own index y host bytes maxL ret wsY rm 0 0 n ∧ (Cond.static y).before args s = true ∧ True) (hE : zE D cI cZ cA s) (hP : va_P D vwCl ws H) (is : List Nat) (hs : is.filterMap (fun i => ws[i]?) = wc)
    (hn : As.length = n) (hsize : ls.size = nL) (hst : st0 = As.reverse ++ rest) (hW : (rest.map fun v => v.category).sum ≤ 8) (hdg : decode cc pc = .ok (.invokestatic index, 3)) (hf : cells + 0 ≤ R.cells ∧ slots + 0 ≤ R.slots)
    (kk : W p l e R s m args below meth c H locs cells slots Q (F0 m (pc + 3) ls (.int v :: rest))) : W p l e R s m args below meth c H locs cells slots Q (F0 m pc ls st0) := by
  have hPc := hP.sub is hs
  exact vp_callSi (va_Run.run (va_runSN S hM cw ⟨zPr.blind, fun U hU hWm => ⟨rfl, by rw [hU]; exact hPc, hE.warm hWm⟩⟩ rfl hn hsize hst (lv_room (m := m) (pc := pc) (ls := ls) (rest := rest) hW) hdg hf)) (fun r hr => by rw [hr]; exact kk)
/-- writing calls -/
theorem z_rwVi {v : Int32} (S : CallFix p m c cc nL s args Ts own) (hM : Met l y wsY rm (va_Pc (.ref b :: As) (zPw D cI cZ cA wc H.size)) (va_Qi (fun (r : Int32) (_ : Unit) => r = v) (zB D w1 (va_A wc H.size)) (va_A wc H.size)) 0 0 (va_A wc H.size)) (cw : CallW R s args own C index y bytes maxL ret wsY rm 0 0 n) (hE : zE D cI cZ cA s) (hP : va_P D vwCl ws H) (hD : va_D A ws) (hS : va_S A H0 H locs) (hA : ∀ q, H0.size ≤ q → A q) (is js : List Nat) (hi : is.filterMap (fun i => ws[i]?) = wc) (hs : is.map (fun i => ws[i]?) = wc.map some) (hr : js.map (fun i => ws[i]?) = wr.map some) (hni : va_nd is = true) (hnj : va_nd js = true) (hij : ∀ i ∈ js, i ∉ is) (q0 ci : Nat) {T : u_T} {N : Nat} {fs : List Value} (hc : vwCl[ci]? = some (C, T, N)) (hq : wc[q0]? = some (b, .inr (ci, fs)))
    (hn : As.length = n) (hsize : ls.size = nL) (hst : st0 = As.reverse ++ .ref b :: rest) (hW : (rest.map fun v => v.category).sum ≤ 8) (hdg : decode cc pc = .ok (.invokevirtual index, 3)) (hf : cells + 0 ≤ R.cells ∧ slots + 0 ≤ R.slots)
    (kk : ∀ (H1 : Heap) (locs1 : List Loc), va_P D vwCl (wr ++ w1) H1 → va_D A (wr ++ w1) → va_S A H0 H1 locs1 → W p l e R s m args below meth c H1 locs1 cells slots Q (F0 m (pc + 3) ls (.int v :: rest))) : W p l e R s m args below meth c H locs cells slots Q (F0 m pc ls st0) := by
  have hPc := hP.sub is hi
  have hDc := hD.sub is hni hs
  have hFc := va_free hD hS hA is hs
  refine va_calli (va_runV S hM cw ⟨zPw.blind, va_recv hE.1 hPc hc hq, fun U hU hWm => ⟨rfl, by rw [hU], by rw [hU]; exact hPc, hDc.weaken (fun _ _ _ _ => trivial), hE.warm hWm⟩⟩ rfl hn hsize hst (lv_room (m := m) (pc := pc) (ls := ls) (rest := rest) hW) hdg hf) hS (fun q _ h => hFc q h) hFc (fun r u t H1 locs1 ht hvm hw hB hz1 hk1 hS1 => ?_)
  obtain ⟨hP1, hD1⟩ := hB
  rw [ht] at hP1
  obtain ⟨hP2, hD2⟩ := va_join hP hD is js hs hr hnj hij hk1 hFc hP1 hD1
  rw [hw]
  exact kk H1 locs1 hP2 hD2 hS1
theorem z_rwVl {v : Int64} (S : CallFix p m c cc nL s args Ts own) (hM : Met l y wsY rm (va_Pc (.ref b :: As) (zPw D cI cZ cA wc H.size)) (va_Ql (fun (r : Int64) (_ : Unit) => r = v) (zB D w1 (va_A wc H.size)) (va_A wc H.size)) 0 0 (va_A wc H.size)) (cw : CallW R s args own C index y bytes maxL ret wsY rm 0 0 n) (hE : zE D cI cZ cA s) (hP : va_P D vwCl ws H) (hD : va_D A ws) (hS : va_S A H0 H locs) (hA : ∀ q, H0.size ≤ q → A q) (is js : List Nat) (hi : is.filterMap (fun i => ws[i]?) = wc) (hs : is.map (fun i => ws[i]?) = wc.map some) (hr : js.map (fun i => ws[i]?) = wr.map some) (hni : va_nd is = true) (hnj : va_nd js = true) (hij : ∀ i ∈ js, i ∉ is) (q0 ci : Nat) {T : u_T} {N : Nat} {fs : List Value} (hc : vwCl[ci]? = some (C, T, N)) (hq : wc[q0]? = some (b, .inr (ci, fs)))
    (hn : As.length = n) (hsize : ls.size = nL) (hst : st0 = As.reverse ++ .ref b :: rest) (hW : (rest.map fun v => v.category).sum ≤ 8) (hdg : decode cc pc = .ok (.invokevirtual index, 3)) (hf : cells + 0 ≤ R.cells ∧ slots + 0 ≤ R.slots)
    (kk : ∀ (H1 : Heap) (locs1 : List Loc), va_P D vwCl (wr ++ w1) H1 → va_D A (wr ++ w1) → va_S A H0 H1 locs1 → W p l e R s m args below meth c H1 locs1 cells slots Q (F0 m (pc + 3) ls (.long v :: rest))) : W p l e R s m args below meth c H locs cells slots Q (F0 m pc ls st0) := by
  have hPc := hP.sub is hi
  have hDc := hD.sub is hni hs
  have hFc := va_free hD hS hA is hs
  refine va_calll (va_runV S hM cw ⟨zPw.blind, va_recv hE.1 hPc hc hq, fun U hU hWm => ⟨rfl, by rw [hU], by rw [hU]; exact hPc, hDc.weaken (fun _ _ _ _ => trivial), hE.warm hWm⟩⟩ rfl hn hsize hst (lv_room (m := m) (pc := pc) (ls := ls) (rest := rest) hW) hdg hf) hS (fun q _ h => hFc q h) hFc (fun r u t H1 locs1 ht hvm hw hB hz1 hk1 hS1 => ?_)
  obtain ⟨hP1, hD1⟩ := hB
  rw [ht] at hP1
  obtain ⟨hP2, hD2⟩ := va_join hP hD is js hs hr hnj hij hk1 hFc hP1 hD1
  rw [hw]
  exact kk H1 locs1 hP2 hD2 hS1
theorem z_rwVv (S : CallFix p m c cc nL s args Ts own) (hM : Met l y wsY rm (va_Pc (.ref b :: As) (zPw D cI cZ cA wc H.size)) (va_Qv (fun (_ : Unit) => True) (zB D w1 (va_A wc H.size)) (va_A wc H.size)) 0 0 (va_A wc H.size)) (cw : CallW R s args own C index y bytes maxL ret wsY rm 0 0 n) (hE : zE D cI cZ cA s) (hP : va_P D vwCl ws H) (hD : va_D A ws) (hS : va_S A H0 H locs) (hA : ∀ q, H0.size ≤ q → A q) (is js : List Nat) (hi : is.filterMap (fun i => ws[i]?) = wc) (hs : is.map (fun i => ws[i]?) = wc.map some) (hr : js.map (fun i => ws[i]?) = wr.map some) (hni : va_nd is = true) (hnj : va_nd js = true) (hij : ∀ i ∈ js, i ∉ is) (q0 ci : Nat) {T : u_T} {N : Nat} {fs : List Value} (hc : vwCl[ci]? = some (C, T, N)) (hq : wc[q0]? = some (b, .inr (ci, fs)))
    (hn : As.length = n) (hsize : ls.size = nL) (hst : st0 = As.reverse ++ .ref b :: rest) (hW : (rest.map fun v => v.category).sum ≤ 8) (hdg : decode cc pc = .ok (.invokevirtual index, 3)) (hf : cells + 0 ≤ R.cells ∧ slots + 0 ≤ R.slots)
    (kk : ∀ (H1 : Heap) (locs1 : List Loc), va_P D vwCl (wr ++ w1) H1 → va_D A (wr ++ w1) → va_S A H0 H1 locs1 → W p l e R s m args below meth c H1 locs1 cells slots Q (F0 m (pc + 3) ls rest)) : W p l e R s m args below meth c H locs cells slots Q (F0 m pc ls st0) := by
  have hPc := hP.sub is hi
  have hDc := hD.sub is hni hs
  have hFc := va_free hD hS hA is hs
  refine va_callv (va_runV S hM cw ⟨zPw.blind, va_recv hE.1 hPc hc hq, fun U hU hWm => ⟨rfl, by rw [hU], by rw [hU]; exact hPc, hDc.weaken (fun _ _ _ _ => trivial), hE.warm hWm⟩⟩ rfl hn hsize hst (lv_room (m := m) (pc := pc) (ls := ls) (rest := rest) hW) hdg hf) hS (fun q _ h => hFc q h) hFc (fun u t H1 locs1 ht hvm hw hB hz1 hk1 hS1 => ?_)
  obtain ⟨hP1, hD1⟩ := hB
  rw [ht] at hP1
  obtain ⟨hP2, hD2⟩ := va_join hP hD is js hs hr hnj hij hk1 hFc hP1 hD1
  exact kk H1 locs1 hP2 hD2 hS1
theorem z_rwSv (S : CallFix p m c cc nL s args Ts own) (hM : Met l y wsY rm (va_Pc As (zPw D cI cZ cA wc H.size)) (va_Qv (fun (_ : Unit) => True) (zB D w1 (va_A wc H.size)) (va_A wc H.size)) 0 0 (va_A wc H.size)) (cw : CallB R s args own index y bytes maxL ret wsY rm 0 0 n ∧ (Cond.static y).before args s = true) (hE : zE D cI cZ cA s) (hP : va_P D vwCl ws H) (hD : va_D A ws) (hS : va_S A H0 H locs) (hA : ∀ q, H0.size ≤ q → A q) (is js : List Nat) (hi : is.filterMap (fun i => ws[i]?) = wc) (hs : is.map (fun i => ws[i]?) = wc.map some) (hr : js.map (fun i => ws[i]?) = wr.map some) (hni : va_nd is = true) (hnj : va_nd js = true) (hij : ∀ i ∈ js, i ∉ is)
    (hn : As.length = n) (hsize : ls.size = nL) (hst : st0 = As.reverse ++ rest) (hW : (rest.map fun v => v.category).sum ≤ 8) (hdg : decode cc pc = .ok (.invokestatic index, 3)) (hf : cells + 0 ≤ R.cells ∧ slots + 0 ≤ R.slots)
    (kk : ∀ (H1 : Heap) (locs1 : List Loc), va_P D vwCl (wr ++ w1) H1 → va_D A (wr ++ w1) → va_S A H0 H1 locs1 → W p l e R s m args below meth c H1 locs1 cells slots Q (F0 m (pc + 3) ls rest)) : W p l e R s m args below meth c H locs cells slots Q (F0 m pc ls st0) := by
  have hPc := hP.sub is hi
  have hDc := hD.sub is hni hs
  have hFc := va_free hD hS hA is hs
  refine va_callv (va_runS S hM cw ⟨zPw.blind, fun U hU hWm => ⟨rfl, by rw [hU], by rw [hU]; exact hPc, hDc.weaken (fun _ _ _ _ => trivial), hE.warm hWm⟩⟩ rfl hn hsize hst (lv_room (m := m) (pc := pc) (ls := ls) (rest := rest) hW) hdg hf) hS (fun q _ h => hFc q h) hFc (fun u t H1 locs1 ht hvm hw hB hz1 hk1 hS1 => ?_)
  obtain ⟨hP1, hD1⟩ := hB
  rw [ht] at hP1
  obtain ⟨hP2, hD2⟩ := va_join hP hD is js hs hr hnj hij hk1 hFc hP1 hD1
  exact kk H1 locs1 hP2 hD2 hS1
end ZROWS
