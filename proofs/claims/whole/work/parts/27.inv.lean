/-! THE LOOP'S RELATION of the law -/
def Lv (n P : Nat) (pg : Nat → Int32) (K Hn : Nat) (kd fa hd lt bd eg br sk sh st : Nat → Int32) (Sn : Nat) (yr : Int32) (lt2 bd2 eg2 br2 sk2 sh2 st2 : Nat → Int32) (Sn2 : Nat) (yr2 im tr : Int32) (rw ns si kr kn kss : Nat → Int32) (kt ky : Int32) (ks : Nat) : Prop :=
  Rt K Hn kd fa hd ∧ Rb K Hn kd fa hd lt bd eg br sk sh st Sn yr rw ns si ∧ P ≤ 22 ∧ (∀ j : Nat, j < P → lok (pg j)) ∧ (∃ T : Nat, T ≤ n ∧ tr = nI T ∧ (kt = -1 ∨ ∃ T' : Nat, T' ≤ T ∧ kt = nI T')) ∧ n ≤ 256 ∧
  ((im = 0 ∧ ¬ kt = tr) ∨ (im = 1 ∧ kt = tr ∧ Rb K Hn kd fa hd lt2 bd2 eg2 br2 sk2 sh2 st2 Sn2 yr2 kr kn kss ∧ ky = yr2 ∧ ks = Sn2))
theorem Rb_fg {K Hn : Nat} {kd fa hd lt bd eg br sk sh st : Nat → Int32} {Sn : Nat} {yr : Int32} {rw ns si : Nat → Int32} (h : Rb K Hn kd fa hd lt bd eg br sk sh st Sn yr rw ns si) : Rb K Hn kd fa hd lt bd eg br sk sh st 0 yr rw ns si := by
  obtain ⟨r1, r2, r3, r4, r5, r6, r7, r8, r9, r10, r11⟩ := h
  exact ⟨r1, r2, r3, r4, fun i hi => absurd hi (by omega), r6, r7, fun i hi => absurd hi (by omega), r9, by omega, r11⟩
theorem lok_let {P : Nat} {pg : Nat → Int32} {c : Int32} (hP : P ≤ 22) (h : ∀ j : Nat, j < P → lok (pg j)) : (fLet P pg c).2.1 ≤ 22 ∧ ∀ j : Nat, j < (fLet P pg c).2.1 → lok ((fLet P pg c).2.2 j) := by
  unfold fLet
  by_cases q : 1 ≤ c ∧ c ≤ 126
  · rw [if_pos q]
    by_cases z : P = 22
    · rw [if_pos z]
      exact ⟨hP, h⟩
    · rw [if_neg z]
      refine ⟨by show P + 1 ≤ 22; omega, fun j hj => ?_⟩
      have hj : j < P + 1 := hj
      show lok (upd pg P c j)
      by_cases u : j = P
      · rw [u, pk_us]
        obtain ⟨n, hn, rfl⟩ := nI_of2 (n := 126) (M := 126) (by decide) (fun w => absurd (Int32.le_trans q.1 (Int32.le_of_lt w)) (by decide)) q.2
        exact ⟨n, (nI_leI (a := 1) (by omega) (by omega)).mp q.1, hn, rfl⟩
      · rw [upd_ne u]
        exact h j (by omega)
  · rw [if_neg q]
    exact ⟨hP, h⟩
section INV
variable {n P : Nat} {pg : Nat → Int32} {K Hn : Nat} {kd fa hd lt bd eg br sk sh st : Nat → Int32} {Sn : Nat} {yr : Int32} {lt2 bd2 eg2 br2 sk2 sh2 st2 : Nat → Int32} {Sn2 : Nat} {yr2 im tr : Int32} {rw ns si kr kn kss : Nat → Int32} {kt ky : Int32} {ks : Nat}
theorem Lv_up (h : Lv n P pg K Hn kd fa hd lt bd eg br sk sh st Sn yr lt2 bd2 eg2 br2 sk2 sh2 st2 Sn2 yr2 im tr rw ns si kr kn kss kt ky ks) (hn : n + 1 ≤ 256) : Lv (n + 1) P pg K Hn kd fa hd lt bd eg br sk sh st Sn yr lt2 bd2 eg2 br2 sk2 sh2 st2 Sn2 yr2 im tr rw ns si kr kn kss kt ky ks := by
  obtain ⟨a, b, c, d, ⟨T, h1, h2, h3⟩, -, g⟩ := h
  exact ⟨a, b, c, d, ⟨T, by omega, h2, h3⟩, hn, g⟩
theorem Lv_book (h : Lv n P pg K Hn kd fa hd lt bd eg br sk sh st Sn yr lt2 bd2 eg2 br2 sk2 sh2 st2 Sn2 yr2 im tr rw ns si kr kn kss kt ky ks) {lt' bd' eg' br' sk' sh' st' rw' ns' si' : Nat → Int32} {Sn' : Nat} {yr' : Int32} (hb : Rb K Hn kd fa hd lt' bd' eg' br' sk' sh' st' Sn' yr' rw' ns' si') : Lv n P pg K Hn kd fa hd lt' bd' eg' br' sk' sh' st' Sn' yr' lt2 bd2 eg2 br2 sk2 sh2 st2 Sn2 yr2 im tr rw' ns' si' kr kn kss kt ky ks := by
  obtain ⟨a, b, c, d, e, f, g⟩ := h
  exact ⟨a, hb, c, d, e, f, g⟩
theorem Lv_page (h : Lv n P pg K Hn kd fa hd lt bd eg br sk sh st Sn yr lt2 bd2 eg2 br2 sk2 sh2 st2 Sn2 yr2 im tr rw ns si kr kn kss kt ky ks) {P' : Nat} {pg' : Nat → Int32} (hP : P' ≤ 22) (hl : ∀ j : Nat, j < P' → lok (pg' j)) : Lv n P' pg' K Hn kd fa hd lt bd eg br sk sh st Sn yr lt2 bd2 eg2 br2 sk2 sh2 st2 Sn2 yr2 im tr rw ns si kr kn kss kt ky ks := by
  obtain ⟨a, b, c, d, e, f, g⟩ := h
  exact ⟨a, b, hP, hl, e, f, g⟩
theorem Lv_tow (h : Lv n P pg K Hn kd fa hd lt bd eg br sk sh st Sn yr lt2 bd2 eg2 br2 sk2 sh2 st2 Sn2 yr2 im tr rw ns si kr kn kss kt ky ks) (hn : n + 1 ≤ 256) {K' Hn' : Nat} {kd' fa' hd' lt' bd' eg' br' sk' sh' st' rw' ns' si' : Nat → Int32} {Sn' : Nat} {yr' : Int32} (ht : Rt K' Hn' kd' fa' hd') (hb : Rb K' Hn' kd' fa' hd' lt' bd' eg' br' sk' sh' st' Sn' yr' rw' ns' si') : Lv (n + 1) 0 pg K' Hn' kd' fa' hd' lt' bd' eg' br' sk' sh' st' Sn' yr' lt2 bd2 eg2 br2 sk2 sh2 st2 Sn2 yr2 0 (tr + 1) rw' ns' si' kr kn kss kt ky ks := by
  obtain ⟨a, b, c, d, ⟨T, h1, h2, h3⟩, f, g⟩ := h
  have e : tr + 1 = nI (T + 1) := by rw [h2]; exact (nI_succ T).symm
  refine ⟨ht, hb, by omega, fun j hj => absurd hj (by omega), ⟨T + 1, by omega, e, ?_⟩, hn, Or.inl ⟨rfl, ?_⟩⟩
  · rcases h3 with q | ⟨T', q1, q2⟩
    · exact Or.inl q
    · exact Or.inr ⟨T', by omega, q2⟩
  · rw [e]
    rcases h3 with q | ⟨T', q1, q2⟩
    · rw [q]
      exact fun u => nI_m1 (by omega) u.symm
    · rw [q2]
      exact fun u => absurd ((nI_eq (by omega) (by omega)).mp u) (by omega)
theorem Lv_img (h : Lv n P pg K Hn kd fa hd lt bd eg br sk sh st Sn yr lt2 bd2 eg2 br2 sk2 sh2 st2 Sn2 yr2 im tr rw ns si kr kn kss kt ky ks) : Lv n P pg K Hn kd fa hd lt bd eg br sk sh st Sn yr lt bd eg br sk sh st Sn yr 1 tr rw ns si rw ns si tr yr Sn := by
  obtain ⟨a, b, c, d, ⟨T, h1, h2, h3⟩, f, g⟩ := h
  exact ⟨a, b, c, d, ⟨T, h1, h2, Or.inr ⟨T, Nat.le_refl _, h2⟩⟩, f, Or.inr ⟨rfl, rfl, b, rfl, rfl⟩⟩
theorem Lv_res (h : Lv n P pg K Hn kd fa hd lt bd eg br sk sh st Sn yr lt2 bd2 eg2 br2 sk2 sh2 st2 Sn2 yr2 im tr rw ns si kr kn kss kt ky ks) (him : ¬ im = 0) : kt = tr ∧ ky = yr2 ∧ ks = Sn2 ∧ Lv n P pg K Hn kd fa hd lt2 bd2 eg2 br2 sk2 sh2 st2 Sn2 yr2 lt2 bd2 eg2 br2 sk2 sh2 st2 Sn2 yr2 im tr kr kn kss kr kn kss kt ky ks := by
  obtain ⟨a, b, c, d, e, f, g⟩ := h
  rcases g with q | ⟨q1, q2, q3, q4, q5⟩
  · exact absurd q.1 him
  · exact ⟨q2, q4, q5, a, q3, c, d, e, f, Or.inr ⟨q1, q2, q3, q4, q5⟩⟩
theorem Lv_res0 (h : Lv n P pg K Hn kd fa hd lt bd eg br sk sh st Sn yr lt2 bd2 eg2 br2 sk2 sh2 st2 Sn2 yr2 im tr rw ns si kr kn kss kt ky ks) (him : im = 0) : ¬ kt = tr := by
  obtain ⟨a, b, c, d, e, f, g⟩ := h
  rcases g with q | q
  · exact q.2
  · rw [him] at q
    exact absurd q.1 (by decide)
end INV
theorem Lv_0 {kd fa hd sk sh rw ns si kr kn kss lt2 bd2 eg2 br2 sk2 sh2 st2 : Nat → Int32} {Sn2 : Nat} {yr2 ky : Int32} {ks : Nat} {pg : Nat → Int32} : Lv 0 0 pg 0 0 kd fa hd (cst (-1)) (cst 0) (cst 0) (cst 0) sk sh (cst 0) 0 0 lt2 bd2 eg2 br2 sk2 sh2 st2 Sn2 yr2 0 0 rw ns si kr kn kss (-1) ky ks := by
  refine ⟨⟨by omega, by omega, Iff.rfl, fun k hk => absurd hk (by omega), fun k hk => absurd hk (by omega)⟩, ⟨fun k hk => absurd hk (by omega), fun k hk => absurd hk (by omega), fun _ _ _ => ⟨rfl, rfl, rfl⟩, fun _ _ _ => rfl, fun k hk => absurd hk (by omega), fun _ _ => Or.inl ⟨rfl, Or.inl rfl⟩, fun k hk => absurd hk (by omega), fun k hk => absurd hk (by omega), fun _ _ => Or.inl rfl, by omega, 0, by omega, rfl⟩, by omega, fun j hj => absurd hj (by omega), ⟨0, Nat.le_refl _, rfl, Or.inl rfl⟩, by omega, Or.inl ⟨rfl, by decide⟩⟩
