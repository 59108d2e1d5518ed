/-! THE TOWER: the same scan -/
theorem zb_n {p : Prop} [Decidable p] (h : ¬ zb p = 0) : p := by
  unfold zb at h
  by_cases z : p
  · exact z
  · rw [if_neg z] at h
    exact absurd rfl h
def lok (c : Int32) : Prop := ∃ n : Nat, 1 ≤ n ∧ n ≤ 126 ∧ c = nI n
theorem i2_l : ∀ n, n < 127 → i2 (nI n) = nI n := by decide +kernel
theorem i2_e {c : Int32} (h : lok c) : i2 c = c := by
  obtain ⟨n, h1, h2, rfl⟩ := h
  exact i2_l n (by omega)
theorem kb_r (c : Int32) : kb c = -1 ∨ ∃ a : Nat, a < 5 ∧ kb c = nI a := by
  unfold kb
  by_cases h0 : c = 107
  · rw [if_pos h0]; exact Or.inr ⟨0, by omega, rfl⟩
  · rw [if_neg h0]
    by_cases h1 : c = 119
    · rw [if_pos h1]; exact Or.inr ⟨1, by omega, rfl⟩
    · rw [if_neg h1]
      by_cases h2 : c = 108
      · rw [if_pos h2]; exact Or.inr ⟨2, by omega, rfl⟩
      · rw [if_neg h2]
        by_cases h3 : c = 98
        · rw [if_pos h3]; exact Or.inr ⟨3, by omega, rfl⟩
        · rw [if_neg h3]
          by_cases h4 : c = 109
          · rw [if_pos h4]; exact Or.inr ⟨4, by omega, rfl⟩
          · rw [if_neg h4]; exact Or.inl rfl
theorem kb_m (c : Int32) : (¬ kb c < 0) ↔ ¬ kb c = -1 := by
  rcases kb_r c with e | ⟨a, ha, e⟩
  · rw [e]; decide
  · rw [e]
    exact ⟨fun _ => nI_m1 (by omega), fun _ => nI_pos (by omega)⟩
theorem dg_r {c : Int32} (h : 48 ≤ c ∧ c ≤ 57) : ∃ a : Nat, a < 10 ∧ c - 48 = nI a := by
  obtain ⟨n, hn, rfl⟩ := nI_of2 (n := 57) (M := 57) (by decide) (fun q => absurd (Int32.le_trans h.1 (Int32.le_of_lt q)) (by decide)) h.2
  have h1 : 48 ≤ n := (nI_leI (a := 48) (by omega) (by omega)).mp h.1
  exact ⟨n - 48, by omega, pk_sub (b := 48) h1⟩
def Aj (pg : Nat → Int32) (j : Nat) : Prop := (j % 3 = 0 → ¬ kb (pg j) = -1) ∧ (j % 3 = 1 → 48 ≤ pg j ∧ pg j ≤ 57)
def Rs (pg : Nat → Int32) (i : Nat) (vb ea : Int32) : Prop :=
  (ea = -1 ∧ vb = 0 ∧ i ≤ 14 ∧ ∀ j : Nat, j < i → Aj pg j) ∨ ∃ E : Nat, ea = nI E ∧ vb = nI (E + 1) ∧ E % 3 = 2 ∧ 5 ≤ E ∧ E ≤ 14 ∧ E < i ∧ i ≤ E + 6 ∧ (∀ j : Nat, j < E → Aj pg j) ∧ ∀ j : Nat, E < j → j < i → 48 ≤ pg j ∧ pg j ≤ 57
theorem Rs_1 {pg : Nat → Int32} {i : Nat} {vb ea : Int32} (h : Rs pg i vb ea) (hl : lok (pg i)) : fR pg vb i = gR pg ea i := by
  unfold fR gR
  rcases h with ⟨rfl, rfl, hi, hj⟩ | ⟨E, rfl, rfl, h3, h5, h14, hlt, hle, -, -⟩
  · rw [if_pos (Int32.le_refl _), if_pos rfl]
    by_cases q0 : i % 3 = 0
    · rw [if_pos q0, if_neg (by omega), if_pos q0, i2_e hl]
      exact zb_c (kb_m _)
    · rw [if_neg q0]
      by_cases q1 : i % 3 = 1
      · rw [if_pos q1, if_neg (by omega), if_neg q0]
      · rw [if_neg q1, if_pos (by omega)]
        unfold eR
        by_cases q2 : pg i = 59 ∧ 4 < i
        · rw [if_pos q2, if_pos ⟨q2.1, by omega⟩]
        · rw [if_neg q2, if_neg (fun u => q2 ⟨u.1, by omega⟩)]
          exact zb_c ⟨fun u => ⟨u.1, by omega⟩, fun u => ⟨u.1, by omega⟩⟩
  · rw [if_neg (nI_nle (by omega) (by omega)), if_neg (nI_m1 (by omega))]
    rw [pk_sub (a := i) (b := E + 1) (by omega), pk_sub (a := i) (b := E) (by omega)]
    apply zb_c
    have e1 : nI (i - (E + 1)) < 5 ↔ i - (E + 1) < 5 := nI_ltI (b := 5) (by omega) (by omega)
    have e2 : nI (i - E) < 6 ↔ i - E < 6 := nI_ltI (b := 6) (by omega) (by omega)
    rw [e1, e2]
    exact ⟨fun u => ⟨by omega, u.1⟩, fun u => ⟨u.2, by omega⟩⟩
theorem Rs_2 {pg : Nat → Int32} {i : Nat} {vb ea : Int32} (h : Rs pg i vb ea) (hg : ¬ gR pg ea i = 0) : Rs pg (i + 1) (fE pg vb i) (gE pg ea i) := by
  unfold gR at hg
  unfold fE gE
  rcases h with ⟨rfl, rfl, hi, hj⟩ | ⟨E, rfl, rfl, h3, h5, h14, hlt, hle, ha, hd⟩
  · rw [if_pos rfl] at hg
    by_cases q2 : i % 3 = 2
    · rw [if_pos q2] at hg
      rw [if_pos ⟨Int32.le_refl _, by omega, by omega⟩]
      unfold eR
      have Ai : Aj pg i := ⟨fun u => by omega, fun u => by omega⟩
      by_cases q3 : pg i = 59 ∧ 4 < i
      · rw [if_pos ⟨q3.1, by omega⟩, if_pos ⟨rfl, q2, q3.1, q3.2⟩]
        exact Or.inr ⟨i, rfl, rfl, q2, by omega, by omega, by omega, by omega, hj, fun j a b => by omega⟩
      · rw [if_neg q3] at hg
        have z := zb_n hg
        rw [if_neg (fun u => q3 ⟨u.1, by omega⟩), if_neg (fun u => q3 ⟨u.2.2.1, u.2.2.2⟩)]
        refine Or.inl ⟨rfl, rfl, by omega, fun j hj2 => ?_⟩
        by_cases y : j = i
        · rw [y]; exact Ai
        · exact hj j (by omega)
    · rw [if_neg q2] at hg
      rw [if_neg (fun u => q2 (by omega)), if_neg (fun u => q2 u.2.1)]
      have Ai : Aj pg i := by
        by_cases q0 : i % 3 = 0
        · rw [if_pos q0] at hg
          exact ⟨fun _ => zb_n hg, fun u => by omega⟩
        · rw [if_neg q0] at hg
          exact ⟨fun u => absurd u q0, fun _ => zb_n hg⟩
      refine Or.inl ⟨rfl, rfl, by omega, fun j hj2 => ?_⟩
      by_cases y : j = i
      · rw [y]; exact Ai
      · exact hj j (by omega)
  · rw [if_neg (nI_m1 (by omega))] at hg
    have z := zb_n hg
    rw [pk_sub (a := i) (b := E) (by omega)] at z
    have z1 : i - E < 6 := (nI_ltI (b := 6) (by omega) (by omega)).mp z.1
    rw [if_neg (fun u => nI_nle (by omega) (by omega) u.1), if_neg (fun u => nI_m1 (by omega) u.1)]
    refine Or.inr ⟨E, rfl, rfl, h3, h5, h14, by omega, by omega, ha, fun j a b => ?_⟩
    by_cases y : j = i
    · rw [y]; exact z.2
    · exact hd j a (by omega)
theorem sc_rel {pg : Nat → Int32} : ∀ {n i : Nat} {vb ea : Int32}, Rs pg i vb ea → (∀ j : Nat, j < i + n → lok (pg j)) → (scF (fR pg) (fE pg) n i vb).1 = (scF (gR pg) (gE pg) n i ea).1 ∧ (scF (gR pg) (gE pg) n i ea).1 ≤ i + n ∧ ((scF (gR pg) (gE pg) n i ea).1 = i + n → Rs pg (i + n) (scF (fR pg) (fE pg) n i vb).2 (scF (gR pg) (gE pg) n i ea).2)
  | 0, i, vb, ea, h, _ => ⟨rfl, Nat.le_refl _, fun _ => h⟩
  | n + 1, i, vb, ea, h, hl => by
    have e := Rs_1 h (hl i (by omega))
    rw [scF, scF, e]
    by_cases q : gR pg ea i = 0
    · rw [if_pos q, if_pos q]
      exact ⟨rfl, by show i ≤ i + (n + 1); omega, fun u => absurd (show i = i + (n + 1) from u) (by omega)⟩
    · rw [if_neg q, if_neg q]
      have ih := sc_rel (n := n) (Rs_2 h q) (fun j hj => hl j (by omega))
      rw [show i + 1 + n = i + (n + 1) by omega] at ih
      exact ih
theorem e_sc {pg : Nat → Int32} {P : Nat} (hl : ∀ j : Nat, j < P → lok (pg j)) : (scC pg P).1 = (scM pg P).1 ∧ (scM pg P).1 ≤ P ∧ ((scM pg P).1 = P → Rs pg P (scC pg P).2 (scM pg P).2) := by
  have h := sc_rel (pg := pg) (n := P) (i := 0) (vb := 0) (ea := -1) (Or.inl ⟨rfl, rfl, by omega, fun j hj => absurd hj (by omega)⟩) (fun j hj => hl j (by omega))
  rw [Nat.zero_add] at h
  exact h
theorem e_ok {pg : Nat → Int32} {P : Nat} (hP : P ≤ 22) (hl : ∀ j : Nat, j < P → lok (pg j)) : okTM pg P ↔ ((scC pg P).1 = P ∧ 0 < (scC pg P).2 ∧ 2 ≤ nI P - (scC pg P).2) := by
  obtain ⟨e1, e2, e3⟩ := e_sc hl
  unfold okTM
  rw [e1]
  by_cases q : (scM pg P).1 = P
  · rcases e3 q with ⟨a, b, -⟩ | ⟨E, a, b, h3, h5, h14, hlt, hle, -⟩
    · rw [a, b]
      exact ⟨fun u => absurd rfl u.2.1, fun u => absurd u.2.1 Int32.lt_irrefl⟩
    · rw [a, b, pk_sub (a := P) (b := E) (by omega), pk_sub (a := P) (b := E + 1) (by omega)]
      have d1 : 3 ≤ nI (P - E) ↔ 3 ≤ P - E := nI_leI (a := 3) (by omega) (by omega)
      have d2 : 2 ≤ nI (P - (E + 1)) ↔ 2 ≤ P - (E + 1) := nI_leI (a := 2) (by omega) (by omega)
      rw [d1, d2]
      exact ⟨fun u => ⟨q, nI_lt (a := 0) (by omega) (by omega), by omega⟩, fun u => ⟨by omega, nI_m1 (by omega), by omega⟩⟩
  · exact ⟨fun u => absurd (by omega) q, fun u => absurd u.1 q⟩
theorem ok_V {pg : Nat → Int32} {P : Nat} (hP : P ≤ 22) (hl : ∀ j : Nat, j < P → lok (pg j)) (ok : okTM pg P) : ∃ E : Nat, (scM pg P).2 = nI E ∧ scC pg P = (P, nI (E + 1)) ∧ E % 3 = 2 ∧ 5 ≤ E ∧ E ≤ 14 ∧ E + 3 ≤ P ∧ P ≤ E + 6 ∧ (∀ j : Nat, j < E → Aj pg j) ∧ ∀ j : Nat, E < j → j < P → 48 ≤ pg j ∧ pg j ≤ 57 := by
  obtain ⟨e1, e2, e3⟩ := e_sc hl
  obtain ⟨o1, o2, o3⟩ := ok
  have q : (scM pg P).1 = P := by omega
  rcases e3 q with ⟨a, -⟩ | ⟨E, a, b, h3, h5, h14, hlt, hle, ha, hd⟩
  · exact absurd a o2
  · rw [a, pk_sub (a := P) (b := E) (by omega)] at o3
    have d1 : 3 ≤ P - E := (nI_leI (a := 3) (by omega) (by omega)).mp o3
    exact ⟨E, a, Prod.ext (e1.trans q) b, h3, h5, h14, by omega, hle, ha, hd⟩
theorem towR_v {pg rw : Nat → Int32} : ∀ {n k : Nat}, k < n → towR pg rw n (3 * k) = kb (pg (3 * k)) ∧ towR pg rw n (3 * k + 1) = pg (3 * k + 1) - 48 ∧ towR pg rw n (3 * k + 2) = 0
  | 0, k, h => absurd h (by omega)
  | n + 1, k, h => by
    rw [towR]
    by_cases q : k = n
    · subst q
      refine ⟨?_, ?_, ?_⟩
      · rw [upd_ne (by omega), upd_ne (by omega), pk_us]
      · rw [upd_ne (by omega), pk_us]
      · rw [pk_us]
    · obtain ⟨a, b, c⟩ := towR_v (pg := pg) (rw := rw) (n := n) (k := k) (by omega)
      refine ⟨?_, ?_, ?_⟩ <;> rw [upd_ne (by omega), upd_ne (by omega), upd_ne (by omega)] <;> assumption
theorem towN_v {pg ns : Nat → Int32} {E : Nat} : ∀ {n k : Nat}, k < n → towN pg E ns n (4 * k) = pg (E + 1 + k) - 48 ∧ towN pg E ns n (4 * k + 1) = -1 ∧ towN pg E ns n (4 * k + 2) = 0 ∧ towN pg E ns n (4 * k + 3) = 0
  | 0, k, h => absurd h (by omega)
  | n + 1, k, h => by
    rw [towN]
    unfold empM
    by_cases q : k = n
    · subst q
      refine ⟨?_, ?_, ?_, ?_⟩
      · rw [upd_ne (by omega), upd_ne (by omega), upd_ne (by omega), pk_us]
      · rw [upd_ne (by omega), upd_ne (by omega), pk_us]
      · rw [upd_ne (by omega), pk_us]
      · rw [pk_us]
    · obtain ⟨a, b, c, d⟩ := towN_v (pg := pg) (ns := ns) (E := E) (n := n) (k := k) (by omega)
      refine ⟨?_, ?_, ?_, ?_⟩ <;> rw [upd_ne (by omega), upd_ne (by omega), upd_ne (by omega), upd_ne (by omega)] <;> assumption
theorem hc_0 {k : Nat} (hk : k < 5) : hc (cst (-1)) (nI k) = 0 := by
  have : ¬ (-1 : Int32) = nI k := fun q => nI_m1 (k := k) (by omega) q.symm
  unfold hc cst
  rw [if_neg this]
theorem t_new {pg rw ns kd fa hd sk sh st si : Nat → Int32} {P E : Nat} (hP : P ≤ 22) (hl : ∀ j : Nat, j < P → lok (pg j)) (h3 : E % 3 = 2) (h5 : 5 ≤ E) (h14 : E ≤ 14) (h1 : E + 3 ≤ P) (h2 : P ≤ E + 6) (ha : ∀ j : Nat, j < E → Aj pg j) (hd' : ∀ j : Nat, E < j → j < P → 48 ≤ pg j ∧ pg j ≤ 57) (hst : stOk st) :
    Rt ((E + 1) / 3) (P - (E + 1)) (cpN (rdK pg) kd ((E + 1) / 3)) (cpN (rdF pg) fa ((E + 1) / 3)) (cpN (rdH pg (E + 1)) hd (P - (E + 1))) ∧ Rb ((E + 1) / 3) (P - (E + 1)) (cpN (rdK pg) kd ((E + 1) / 3)) (cpN (rdF pg) fa ((E + 1) / 3)) (cpN (rdH pg (E + 1)) hd (P - (E + 1))) (cst (-1)) (cst 0) (cst 0) (cst 0) sk sh st 0 0 (towR pg rw ((E + 1) / 3)) (towN pg E ns (P - (E + 1))) si := by
  have ek : ∀ k : Nat, k < (E + 1) / 3 → cpN (rdK pg) kd ((E + 1) / 3) k = kb (pg (3 * k)) := by
    intro k hk
    rw [cpN, if_pos hk, rdK, i2_e (hl _ (by omega))]
  have ef : ∀ k : Nat, k < (E + 1) / 3 → cpN (rdF pg) fa ((E + 1) / 3) k = pg (3 * k + 1) - 48 := by
    intro k hk
    rw [cpN, if_pos hk, rdF]
  have eh : ∀ k : Nat, k < P - (E + 1) → cpN (rdH pg (E + 1)) hd (P - (E + 1)) k = pg (E + 1 + k) - 48 := by
    intro k hk
    rw [cpN, if_pos hk, rdH]
  refine ⟨⟨by omega, by omega, by omega, ?_, ?_⟩, ?_, ?_, ?_, ?_, ?_, ?_, ?_, ?_, hst, by omega, 0, by omega, rfl⟩
  · intro k hk
    rw [ek k hk, ef k hk]
    refine ⟨?_, dg_r ((ha (3 * k + 1) (by omega)).2 (by omega))⟩
    rcases kb_r (pg (3 * k)) with q | q
    · exact absurd q ((ha (3 * k) (by omega)).1 (by omega))
    · exact q
  · intro k hk
    rw [eh k hk]
    exact dg_r (hd' (E + 1 + k) (by omega) (by omega))
  · intro k hk
    obtain ⟨a, b, c⟩ := towR_v (pg := pg) (rw := rw) hk
    exact ⟨a.trans (ek k hk).symm, b.trans (ef k hk).symm, c⟩
  · intro k hk
    obtain ⟨a, b, c, d⟩ := towN_v (pg := pg) (ns := ns) (E := E) hk
    exact ⟨a.trans (eh k hk).symm, b, c, d⟩
  · exact fun _ _ _ => ⟨rfl, rfl, rfl⟩
  · exact fun _ _ _ => rfl
  · exact fun i hi => absurd hi (by omega)
  · exact fun _ _ => Or.inl ⟨rfl, Or.inl rfl⟩
  · intro k hk
    rw [hc_0 (by omega)]
    omega
  · exact fun i hi => absurd hi (by omega)
