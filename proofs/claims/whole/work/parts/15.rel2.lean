/-! THE WRITES keep the relation -/
theorem hc_upd (lt : Nat → Int32) (j : Nat) (hj : j < 5) (v k : Int32) : hc (upd lt j v) k + (if lt j = k then 1 else 0) = hc lt k + (if v = k then 1 else 0) := by
  rcases (show j = 0 ∨ j = 1 ∨ j = 2 ∨ j = 3 ∨ j = 4 by omega) with rfl | rfl | rfl | rfl | rfl <;> simp only [hc, upd] <;> simp <;> omega
theorem up_i {f : Nat → Int32} {i : Nat} : upd f i (f i) = f := by
  funext j
  by_cases h : j = i
  · subst h; exact pk_us
  · exact upd_ne h
theorem le_lt1 {x S : Int32} {n : Nat} (h1 : S = nI (n + 1)) (h2 : S - 1 = nI n) (hn : n < 2 ^ 30) : (¬ x < 0 ∧ x < S) ↔ (0 ≤ x ∧ x ≤ S - 1) := by
  rw [h2, h1]
  constructor
  · intro ⟨a, b⟩
    obtain ⟨j, hj, rfl⟩ := nI_of a
    exact ⟨Int32.not_lt.mp a, (nI_leI hj (by omega)).mpr (by have := (nI_ltI hj (by omega)).mp b; omega)⟩
  · intro ⟨a, b⟩
    have a' := Int32.not_lt.mpr a
    obtain ⟨j, hj, rfl⟩ := nI_of a'
    exact ⟨a', (nI_ltI hj (by omega)).mpr (by have := (nI_leI hj (by omega)).mp b; omega)⟩
section REL2
variable {K Hn : Nat} {kd fa hd lt bd eg br sk sh st : Nat → Int32} {Sn : Nat} {yr : Int32} {rw ns si : Nat → Int32}
theorem Rb_hole (hH : Hn ≤ 5) (h : Rb K Hn kd fa hd lt bd eg br sk sh st Sn yr rw ns si) {j : Nat} (hj : j < Hn) {l b e : Int32} (hlb : (l = -1 ∧ (b = 0 ∨ b = 2)) ∨ ∃ k : Nat, k < K ∧ l = nI k ∧ b = 1) (hcc : ∀ k : Nat, k < K → hc (upd lt j l) (nI k) ≤ 2) {ns' : Nat → Int32} (hns : ∀ x : Nat, x < Hn → ns' (4 * x) = ns (4 * x) ∧ ns' (4 * x + 1) = upd lt j l x ∧ ns' (4 * x + 2) = upd bd j b x ∧ ns' (4 * x + 3) = upd eg j e x) : Rb K Hn kd fa hd (upd lt j l) (upd bd j b) (upd eg j e) br sk sh st Sn yr rw ns' si := by
  obtain ⟨r1, r2, r3, r4, r5, r6, r7, r8, r9, r10, r11⟩ := h
  refine ⟨r1, ?_, ?_, r4, r5, ?_, hcc, r8, r9, r10, r11⟩
  · intro x hx
    obtain ⟨q1, q2, q3, q4⟩ := hns x hx
    exact ⟨by rw [q1]; exact (r2 x hx).1, q2, q3, q4⟩
  · intro x h1 h2
    rw [upd_ne (by omega), upd_ne (by omega), upd_ne (by omega)]
    exact r3 x h1 h2
  · intro x hx
    by_cases q : x = j
    · subst q
      rw [pk_us, pk_us]
      exact hlb
    · rw [upd_ne q, upd_ne q]
      exact r6 x hx
/-- a hole's cells in the reference's row -/
theorem ns_up {ns lt bd eg : Nat → Int32} {j : Nat} {l b e : Int32} (h : ∀ x : Nat, x < Hn → ns (4 * x + 1) = lt x ∧ ns (4 * x + 2) = bd x ∧ ns (4 * x + 3) = eg x) {x : Nat} (hx : x < Hn) {ns' : Nat → Int32} (h' : ns' = upd (upd (upd ns (4 * j + 1) l) (4 * j + 2) b) (4 * j + 3) e) : ns' (4 * x) = ns (4 * x) ∧ ns' (4 * x + 1) = upd lt j l x ∧ ns' (4 * x + 2) = upd bd j b x ∧ ns' (4 * x + 3) = upd eg j e x := by
  subst h'
  obtain ⟨a1, a2, a3⟩ := h x hx
  by_cases q : x = j
  · subst q
    refine ⟨?_, ?_, ?_, ?_⟩
    · rw [upd_ne (by omega), upd_ne (by omega), upd_ne (by omega)]
    · rw [upd_ne (by omega), upd_ne (by omega), pk_us, pk_us]
    · rw [upd_ne (by omega), pk_us, pk_us]
    · rw [pk_us, pk_us]
  · refine ⟨?_, ?_, ?_, ?_⟩
    · rw [upd_ne (by omega), upd_ne (by omega), upd_ne (by omega)]
    · rw [upd_ne (by omega), upd_ne (by omega), upd_ne (by omega), upd_ne q]; exact a1
    · rw [upd_ne (by omega), upd_ne (by omega), upd_ne (by omega), upd_ne q]; exact a2
    · rw [upd_ne (by omega), upd_ne (by omega), upd_ne (by omega), upd_ne q]; exact a3
theorem Rb_up (hH : Hn ≤ 5) (h : Rb K Hn kd fa hd lt bd eg br sk sh st Sn yr rw ns si) {j : Nat} (hj : j < Hn) {l b e : Int32} (hlb : (l = -1 ∧ (b = 0 ∨ b = 2)) ∨ ∃ k : Nat, k < K ∧ l = nI k ∧ b = 1) (hcc : ∀ k : Nat, k < K → hc (upd lt j l) (nI k) ≤ 2) : Rb K Hn kd fa hd (upd lt j l) (upd bd j b) (upd eg j e) br sk sh st Sn yr rw (upd (upd (upd ns (4 * j + 1) l) (4 * j + 2) b) (4 * j + 3) e) si :=
  Rb_hole hH h hj hlb hcc (fun _ hx => ns_up (fun y hy => ⟨(h.2.1 y hy).2.1, (h.2.1 y hy).2.2.1, (h.2.1 y hy).2.2.2⟩) hx rfl)
theorem hc_m1 (h : Rb K Hn kd fa hd lt bd eg br sk sh st Sn yr rw ns si) (hK : K ≤ 5) {j : Nat} (hj : j < 5) {k : Nat} (hk : k < K) : hc (upd lt j (-1)) (nI k) ≤ 2 := by
  have h1 := hc_upd lt j hj (-1) (nI k)
  have h2 := h.2.2.2.2.2.2.1 k hk
  rw [if_neg (show ¬ (-1 : Int32) = nI k from fun q => nI_m1 (k := k) (by omega) q.symm)] at h1
  omega
theorem p_let (ht : Rt K Hn kd fa hd) (h : Rb K Hn kd fa hd lt bd eg br sk sh st Sn yr rw ns si) (x k : Int32) : (fLetC lt bd K Hn x k).1 = (fLetM ns K Hn x k).1 ∧ Rb K Hn kd fa hd (fLetC lt bd K Hn x k).2.1 (fLetC lt bd K Hn x k).2.2 eg br sk sh st Sn yr rw (fLetM ns K Hn x k).2 si := by
  obtain ⟨hK, hH, -, -, -⟩ := ht
  unfold fLetC fLetM
  by_cases q : (¬ x < 0 ∧ x < nI Hn) ∧ (¬ k < 0 ∧ k < nI K)
  · rw [if_pos q, if_pos q]
    obtain ⟨j, hj, rfl⟩ := z_ix q.1 (by omega)
    obtain ⟨i, hi, rfl⟩ := z_ix q.2 (by omega)
    rw [nI_clamp (by omega)]
    have him : ¬ nI i = -1 := nI_m1 (by omega)
    have s1 := so_h5 (ns := ns) (lt := lt) (k := nI i) hH him (fun y hy => (h.2.1 y hy).2.1) (fun y a b => (h.2.2.1 y a b).1)
    have c2 := h.2.2.2.2.2.2.1 i hi
    rw [s1, on_hc, bc_hc, (h.2.1 j hj).2.2.1]
    have e : (0 < 2 - nI (hc lt (nI i))) ↔ ¬ nI (hc lt (nI i)) = 2 := by
      rcases (show hc lt (nI i) = 0 ∨ hc lt (nI i) = 1 ∨ hc lt (nI i) = 2 by omega) with z | z | z <;> rw [z] <;> decide
    by_cases q2 : bd j = 0 ∧ ¬ nI (hc lt (nI i)) = 2
    · rw [if_pos q2, if_pos ⟨q2.1, e.mpr q2.2⟩]
      have ej : lt j = -1 := by
        rcases h.2.2.2.2.2.1 j (by omega) with z | ⟨y, -, -, z⟩
        · exact z.1
        · rw [q2.1] at z; exact absurd z (by decide)
      have h1 : ¬ hc lt (nI i) = 2 := fun z => q2.2 (by rw [z]; rfl)
      have key := Rb_up (l := nI i) (b := 1) (e := eg j) hH h hj (Or.inr ⟨i, hi, rfl, rfl⟩) (fun y hy => by
        have u := hc_upd lt j (by omega) (nI i) (nI y)
        have v := h.2.2.2.2.2.2.1 y hy
        rw [if_neg (by rw [ej]; exact fun z => nI_m1 (k := y) (by omega) z.symm)] at u
        by_cases w : nI i = nI y
        · rw [← w] at u ⊢
          rw [if_pos rfl] at u
          omega
        · rw [if_neg w] at u
          omega)
      rw [up_i] at key
      have en : upd (upd (upd ns (4 * j + 1) (nI i)) (4 * j + 2) 1) (4 * j + 3) (eg j) = upd (upd ns (4 * j + 1) (nI i)) (4 * j + 2) 1 := by
        have : eg j = (upd (upd ns (4 * j + 1) (nI i)) (4 * j + 2) 1) (4 * j + 3) := by
          rw [upd_ne (by omega), upd_ne (by omega)]
          exact (h.2.1 j hj).2.2.2.symm
        rw [this]
        exact up_i
      rw [en] at key
      refine ⟨?_, key⟩
      have s2 := so_h5 (k := nI i) hH him (fun y hy => (key.2.1 y hy).2.1) (fun y a b => (key.2.2.1 y a b).1)
      show bitc _ = oneN _ 5
      rw [s2, on_hc, bc_hc]
    · rw [if_neg q2, if_neg (fun z => q2 ⟨z.1, e.mp z.2⟩)]
      exact ⟨rfl, h⟩
  · rw [if_neg q, if_neg q]
    exact ⟨rfl, h⟩
theorem p_leave (ht : Rt K Hn kd fa hd) (h : Rb K Hn kd fa hd lt bd eg br sk sh st Sn yr rw ns si) (x : Int32) : (fLeaveC lt bd eg Hn x).1 = (fLeaveM ns Hn x).1 ∧ Rb K Hn kd fa hd (fLeaveC lt bd eg Hn x).2.1 (fLeaveC lt bd eg Hn x).2.2.1 (fLeaveC lt bd eg Hn x).2.2.2 br sk sh st Sn yr rw (fLeaveM ns Hn x).2 si := by
  obtain ⟨hK, hH, -, -, -⟩ := ht
  unfold fLeaveC fLeaveM
  by_cases q : ¬ x < 0 ∧ x < nI Hn
  · rw [if_pos q, if_pos q]
    obtain ⟨j, hj, rfl⟩ := z_ix q (by omega)
    rw [nI_clamp (by omega), (h.2.1 j hj).2.1]
    rcases h.2.2.2.2.2.1 j (by omega) with z | ⟨y, hy, z1, z2⟩
    · rw [if_pos z.1, if_neg (by rcases z.2 with w | w <;> rw [w] <;> decide)]
      exact ⟨rfl, h⟩
    · rw [if_neg (show ¬ lt j = -1 by rw [z1]; exact nI_m1 (by omega)), if_pos z2]
      exact ⟨((h.2.1 j hj).2.2.2).symm, Rb_up hH h hj (Or.inl ⟨rfl, Or.inl rfl⟩) (fun k hk => hc_m1 h hK (by omega) hk)⟩
  · rw [if_neg q, if_neg q]
    exact ⟨rfl, h⟩
theorem p_forgN (hK : K ≤ 5) (hH : Hn ≤ 5) (h : Rb K Hn kd fa hd lt bd eg br sk sh st Sn yr rw ns si) : ∀ n : Nat, n ≤ Hn → (fgCN lt bd eg n).1 = (fgN ns n).1 ∧ Rb K Hn kd fa hd (fgCN lt bd eg n).2.1 (fgCN lt bd eg n).2.2.1 (fgCN lt bd eg n).2.2.2 br sk sh st Sn yr rw (fgN ns n).2 si
  | 0, _ => ⟨rfl, h⟩
  | n + 1, hn => by
    obtain ⟨i1, i2⟩ := p_forgN hK hH h n (by omega)
    rw [fgCN, fgN]
    unfold fgCst fgSt
    rw [(i2.2.1 n (by omega)).2.2.1]
    split
    · exact ⟨by rw [i1], Rb_up hH i2 (by omega) (Or.inl ⟨rfl, Or.inl rfl⟩) (fun k hk => hc_m1 i2 hK (by omega) hk)⟩
    · exact ⟨i1, i2⟩
theorem Rb_br (h : Rb K Hn kd fa hd lt bd eg br sk sh st Sn yr rw ns si) {i : Nat} (hi : i < K) (v : Int32) : Rb K Hn kd fa hd lt bd eg (upd br i v) sk sh st Sn yr (upd rw (3 * i + 2) v) ns si := by
  obtain ⟨r1, r2, r3, r4, r5, r6, r7, r8, r9, r10, r11⟩ := h
  refine ⟨?_, r2, r3, ?_, r5, r6, r7, r8, r9, r10, r11⟩
  · intro x hx
    obtain ⟨a1, a2, a3⟩ := r1 x hx
    rw [upd_ne (by omega), upd_ne (by omega)]
    refine ⟨a1, a2, ?_⟩
    by_cases q : x = i
    · subst q; rw [pk_us, pk_us]
    · rw [upd_ne (by omega), upd_ne q]; exact a3
  · intro x h1 h2
    rw [upd_ne (by omega)]
    exact r4 x h1 h2
theorem Rb_yr (h : Rb K Hn kd fa hd lt bd eg br sk sh st Sn yr rw ns si) {y : Int32} (hy : ∃ Y : Nat, Y ≤ 99 ∧ y = nI Y) : Rb K Hn kd fa hd lt bd eg br sk sh st Sn y rw ns si := by
  obtain ⟨r1, r2, r3, r4, r5, r6, r7, r8, r9, r10, r11⟩ := h
  exact ⟨r1, r2, r3, r4, r5, r6, r7, r8, r9, r10, hy⟩
theorem p_yearN (hK : K ≤ 5) (hH : Hn ≤ 5) (h : Rb K Hn kd fa hd lt bd eg br sk sh st Sn yr rw ns si) (kept : Int32) : ∀ n : Nat, n ≤ Hn → (yCN K kd kept lt bd eg br n).1 = (yN kept ns rw n).1 ∧ Rb K Hn kd fa hd (yCN K kd kept lt bd eg br n).2.1 (yCN K kd kept lt bd eg br n).2.2.1 (yCN K kd kept lt bd eg br n).2.2.2.1 (yCN K kd kept lt bd eg br n).2.2.2.2 sk sh st Sn yr (yN kept ns rw n).2.2 (yN kept ns rw n).2.1 si
  | 0, _ => ⟨rfl, h⟩
  | n + 1, hn => by
    obtain ⟨i1, i2⟩ := p_yearN hK hH h kept n (by omega)
    rw [yCN, yN]
    generalize yCN K kd kept lt bd eg br n = a at *
    generalize yN kept ns rw n = b at *
    obtain ⟨a1, alt, abd, aeg, abr⟩ := a
    obtain ⟨b1, bns, brw⟩ := b
    unfold yCst ySt
    simp only at i1 i2 ⊢
    obtain ⟨f1, f2, f3, f4⟩ := i2.2.1 n (by omega)
    rw [f2]
    rcases i2.2.2.2.2.2.1 n (by omega) with z | ⟨k, hk, z1, z2⟩
    · rw [if_pos z.1, if_neg (fun w => w.1 (by rw [z.1]; decide))]
      exact ⟨i1, i2⟩
    · rw [z1, if_pos (z_ixn hk (by omega)), if_neg (nI_m1 (by omega)), nI_clamp (by omega)]
      split
      · refine ⟨by rw [i1], ?_⟩
        have e1 : eggY K kd (nI k) = if brw (3 * k) = 2 then 0 else 1 := by
          unfold eggY
          rw [nI_clamp (by omega), (i2.1 k hk).1]
          by_cases w : kd k = 2
          · rw [if_pos ⟨z_ixn hk (by omega), w⟩, if_pos w]
          · rw [if_neg (fun u => w u.2), if_neg w]
        have key := Rb_up (l := alt n) (b := abd n) (e := aeg n + eggY K kd (nI k)) hH i2 (j := n) (by omega) (Or.inr ⟨k, hk, z1, z2⟩) (fun y hy => by rw [up_i]; exact i2.2.2.2.2.2.2.1 y hy)
        rw [up_i, up_i] at key
        have en : upd (upd bns (4 * n + 1) (alt n)) (4 * n + 2) (abd n) = bns := by
          rw [← f2, up_i, ← f3, up_i]
        rw [en] at key
        unfold kepM
        rw [f4, ← e1]
        exact key
      · refine ⟨i1, ?_⟩
        have key := Rb_up (l := -1) (b := 2) (e := 0) hH i2 (j := n) (by omega) (Or.inl ⟨rfl, Or.inr rfl⟩) (fun y hy => hc_m1 i2 hK (by omega) hy)
        have key2 := Rb_br key hk (abr k + 1)
        have en : upd (empM bns n) (4 * n + 2) 2 = upd (upd (upd bns (4 * n + 1) (-1)) (4 * n + 2) 2) (4 * n + 3) 0 := by
          unfold empM
          funext y
          by_cases w1 : y = 4 * n + 2
          · subst w1
            rw [pk_us, upd_ne (by omega), pk_us]
          · rw [upd_ne w1]
            by_cases w2 : y = 4 * n + 3
            · subst w2
              rw [pk_us, pk_us]
            · rw [upd_ne w2, upd_ne w2, upd_ne w1, upd_ne w1]
        rw [en, (i2.1 k hk).2.2]
        exact key2
theorem p_year (ht : Rt K Hn kd fa hd) (h : Rb K Hn kd fa hd lt bd eg br sk sh st Sn yr rw ns si) (kept : Int32) : (fYearC kd lt bd eg br K Hn yr kept).1 = (fYearM ns rw Hn yr kept).1 ∧ (fYearC kd lt bd eg br K Hn yr kept).2.1 = (fYearM ns rw Hn yr kept).2.1 ∧ Rb K Hn kd fa hd (fYearC kd lt bd eg br K Hn yr kept).2.2.1 (fYearC kd lt bd eg br K Hn yr kept).2.2.2.1 (fYearC kd lt bd eg br K Hn yr kept).2.2.2.2.1 (fYearC kd lt bd eg br K Hn yr kept).2.2.2.2.2 sk sh st Sn (fYearC kd lt bd eg br K Hn yr kept).2.1 (fYearM ns rw Hn yr kept).2.2.2 (fYearM ns rw Hn yr kept).2.2.1 si := by
  obtain ⟨hK, hH, h0, -, -⟩ := ht
  unfold fYearC fYearM
  have e1 : (¬ kept < 0 ∧ kept < 1 <<< (nI Hn &&& 31)) ↔ (0 ≤ kept ∧ kept ≤ (1 <<< (nI Hn &&& 31)) - 1) := by
    rcases (show Hn = 0 ∨ Hn = 1 ∨ Hn = 2 ∨ Hn = 3 ∨ Hn = 4 ∨ Hn = 5 by omega) with rfl | rfl | rfl | rfl | rfl | rfl
    · exact le_lt1 (n := 0) (by decide) (by decide) (by omega)
    · exact le_lt1 (n := 1) (by decide) (by decide) (by omega)
    · exact le_lt1 (n := 3) (by decide) (by decide) (by omega)
    · exact le_lt1 (n := 7) (by decide) (by decide) (by omega)
    · exact le_lt1 (n := 15) (by decide) (by decide) (by omega)
    · exact le_lt1 (n := 31) (by decide) (by decide) (by omega)
  by_cases q : 0 ≤ kept ∧ kept ≤ (1 <<< (nI Hn &&& 31)) - 1
  · rw [if_pos q, if_pos (e1.mpr q)]
    by_cases q2 : Hn = 0
    · rw [if_pos q2, if_neg (by have := h0.mpr q2; omega)]
      exact ⟨rfl, rfl, h⟩
    · rw [if_neg q2, if_pos (by have := fun w => q2 (h0.mp w); omega)]
      obtain ⟨Y, hY, eY⟩ := h.2.2.2.2.2.2.2.2.2.2
      by_cases q3 : Y = 99
      · rw [if_neg (by rw [eY, q3]; decide), if_pos (by rw [eY, q3]; decide)]
        exact ⟨rfl, rfl, h⟩
      · rw [if_pos (by rw [eY]; exact nI_lt (b := 99) (by omega) (by omega)), if_neg (by rw [eY]; exact fun w => q3 ((nI_eq (b := 99) (by omega) (by omega)).mp w))]
        obtain ⟨i1, i2⟩ := p_yearN hK hH h kept Hn (Nat.le_refl _)
        exact ⟨i1, rfl, Rb_yr i2 ⟨Y + 1, by omega, by rw [eY]; exact (nI_succ Y).symm⟩⟩
  · rw [if_neg q, if_neg (fun w => q (e1.mp w))]
    exact ⟨rfl, rfl, h⟩
theorem p_see (ht : Rt K Hn kd fa hd) (h : Rb K Hn kd fa hd lt bd eg br sk sh st Sn yr rw ns si) (k hard kept : Int32) (hkp : kept = 0 ∨ kept = 1) : (fSeeC sk sh st K Sn k hard kept).1 = (fSeeM si K Sn k hard kept).1 ∧ (fSeeC sk sh st K Sn k hard kept).2.1 = (fSeeM si K Sn k hard kept).2.1 ∧ Rb K Hn kd fa hd lt bd eg br (fSeeC sk sh st K Sn k hard kept).2.2.1 (fSeeC sk sh st K Sn k hard kept).2.2.2.1 (fSeeC sk sh st K Sn k hard kept).2.2.2.2 (fSeeC sk sh st K Sn k hard kept).2.1 yr rw ns (fSeeM si K Sn k hard kept).2.2 := by
  unfold fSeeC fSeeM
  by_cases q : ¬ k < 0 ∧ k < nI K
  · rw [if_pos q, if_pos q]
    by_cases q2 : 0 ≤ hard ∧ hard ≤ 9
    · rw [if_pos q2, if_pos q2]
      have h8 := h.2.2.2.2.2.2.2.2.2.1
      by_cases q3 : Sn = 8
      · rw [if_pos q3, if_neg (by omega)]
        exact ⟨rfl, rfl, h⟩
      · rw [if_neg q3, if_pos (by omega)]
        refine ⟨rfl, rfl, ?_⟩
        have ek : (if kept = 0 then (0 : Int32) else 1) = kept := by
          rcases hkp with w | w <;> rw [w] <;> decide
        simp only
        rw [ek]
        obtain ⟨r1, r2, r3, r4, r5, r6, r7, r8, r9, r10, r11⟩ := h
        refine ⟨r1, r2, r3, r4, ?_, r6, r7, ?_, ?_, by omega, r11⟩
        · intro i hi
          by_cases w : i = Sn
          · subst w
            refine ⟨?_, ?_, ?_⟩
            · rw [upd_ne (by omega), upd_ne (by omega), pk_us, pk_us]
            · rw [upd_ne (by omega), pk_us, pk_us]
            · rw [pk_us, pk_us]
          · obtain ⟨a1, a2, a3⟩ := r5 i (by omega)
            rw [upd_ne w, upd_ne w, upd_ne w]
            refine ⟨?_, ?_, ?_⟩ <;> rw [upd_ne (by omega), upd_ne (by omega), upd_ne (by omega)] <;> assumption
        · intro i hi
          by_cases w : i = Sn
          · subst w
            rw [pk_us]
            obtain ⟨c, hc, e⟩ := nI_of2 (n := 9) (M := 9) (by decide) (Int32.not_lt.mpr q2.1) q2.2
            exact ⟨c, by omega, e⟩
          · rw [upd_ne w]
            exact r8 i (by omega)
        · intro i hi
          by_cases w : i = Sn
          · subst w
            rw [pk_us]
            exact hkp
          · rw [upd_ne w]
            exact r9 i hi
    · rw [if_neg q2, if_neg q2]
      exact ⟨rfl, rfl, h⟩
  · rw [if_neg q, if_neg q]
    exact ⟨rfl, rfl, h⟩
end REL2
