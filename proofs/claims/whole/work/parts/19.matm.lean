/-! MATCH: the reference's count through all layings is the abstract search -/
def rlM (Hn : Nat) (q : Int32 × (Nat → Int32) × (Nat → Int32)) : Bst → Prop
  | none => q.1 = -1
  | some p => q.1 = nI p.1 ∧ p.1 ≤ 50 ∧ ∀ j : Nat, j < Hn → q.2.2 j = fn p.2 j
theorem rl_MU {Hn : Nat} {q : Int32 × (Nat → Int32) × (Nat → Int32)} {o : Bst} {v : Nat} {t : Nat → Nat} {row : Nat → Int32} (hv : v ≤ 50) (hr : ∀ j : Nat, j < Hn → row j = fn t j) (r : rlM Hn q o) : rlM Hn (if nI v ≤ q.1 then (q.1, row, q.2.2) else (nI v, row, row)) (bU v t o) := by
  cases o with
  | none =>
    have r : q.1 = -1 := r
    rw [r, if_neg (Int32.not_le.mpr (m1_lt (by omega)))]
    exact ⟨rfl, hv, hr⟩
  | some p =>
    obtain ⟨r1, hp, r2⟩ : q.1 = nI p.1 ∧ p.1 ≤ 50 ∧ ∀ j : Nat, j < Hn → q.2.2 j = fn p.2 j := r
    unfold bU
    simp only
    by_cases z : p.1 < v
    · rw [if_pos z, r1, if_neg (fun u => absurd ((nI_leI (by omega) (by omega)).mp u) (by omega))]
      exact ⟨rfl, hv, hr⟩
    · rw [if_neg z, r1, if_pos ((nI_leI (by omega) (by omega)).mpr (by omega))]
      exact ⟨rfl, hp, r2⟩
section MATM
variable {vc : Nat → Bool} {c : Nat → Nat} {K Hn : Nat} {w : Nat → Nat → Nat} {rw ns : Nat → Int32}
theorem lay1_t (hv : ∀ h : Nat, h < Hn → (vc h = true ↔ ns (4 * h + 2) = 0)) (hw : ∀ h k : Nat, h < Hn → k < K → tb (rw (3 * k)) (rw (3 * k + 1)) (ns (4 * h)) = nI (w h k)) {t : Nat → Nat} : ∀ {h left : Nat} {s : Nat} {row : Nat → Int32}, h ≤ Hn → (∀ j : Nat, j < h → t j = left / (K + 1) ^ (h - 1 - j) % (K + 1)) → (∀ j : Nat, j < h → ¬ t j = 0 → vc j = true) → ∃ row' : Nat → Int32, lay1 K rw ns h left (nI s) row = (true, nI (s + smN w t h), row') ∧ (∀ j : Nat, j < h → row' j = fn t j) ∧ ∀ j : Nat, h ≤ j → row' j = row j
  | 0, left, s, row, _, _, _ => ⟨row, rfl, fun j hj => absurd hj (by omega), fun _ _ => rfl⟩
  | h + 1, left, s, row, hh, ht, ok => by
    have t0 : t h = left % (K + 1) := by
      rw [ht h (by omega), show h + 1 - 1 - h = 0 by omega, Nat.pow_zero, Nat.div_one]
    have tj : ∀ j : Nat, j < h → t j = left / (K + 1) / (K + 1) ^ (h - 1 - j) % (K + 1) := by
      intro j hj
      rw [ht j (by omega), Nat.div_div_eq_div_mul, show h + 1 - 1 - j = (h - 1 - j) + 1 by omega, Nat.pow_succ, Nat.mul_comm]
    have hlt : left % (K + 1) < K + 1 := Nat.mod_lt _ (by omega)
    rw [lay1, ← t0]
    rw [if_neg (fun q => q.2 ((hv h (by omega)).mp (ok h (by omega) q.1)))]
    have es : nI s + (if t h = 0 then 0 else tb (rw (3 * (t h - 1))) (rw (3 * (t h - 1) + 1)) (ns (4 * h))) = nI (s + (if t h = 0 then 0 else w h (t h - 1))) := by
      by_cases q : t h = 0
      · rw [if_pos q, if_pos q, Nat.add_zero, Int32.add_zero]
      · rw [if_neg q, if_neg q, hw h (t h - 1) (by omega) (by omega), nI_add]
    rw [es]
    obtain ⟨row', e1, e2, e3⟩ := lay1_t hv hw (t := t) (h := h) (left := left / (K + 1)) (s := s + (if t h = 0 then 0 else w h (t h - 1))) (row := upd row h (nI (t h) - 1)) (by omega) tj (fun j hj => ok j (by omega))
    refine ⟨row', ?_, ?_, ?_⟩
    · rw [e1, smN]
      congr 3
      omega
    · intro j hj
      by_cases q : j = h
      · rw [q, e3 h (Nat.le_refl _), pk_us]
        rfl
      · exact e2 j (by omega)
    · intro j hj
      rw [e3 j (by omega), upd_ne (by omega)]
theorem lay1_f (hv : ∀ h : Nat, h < Hn → (vc h = true ↔ ns (4 * h + 2) = 0)) {t : Nat → Nat} : ∀ {h left : Nat} {s : Int32} {row : Nat → Int32}, h ≤ Hn → (∀ j : Nat, j < h → t j = left / (K + 1) ^ (h - 1 - j) % (K + 1)) → ¬ (∀ j : Nat, j < h → ¬ t j = 0 → vc j = true) → ∃ v r, lay1 K rw ns h left s row = (false, v, r)
  | 0, left, s, row, _, _, nok => absurd (fun j hj => absurd hj (by omega)) nok
  | h + 1, left, s, row, hh, ht, nok => by
    have t0 : t h = left % (K + 1) := by
      rw [ht h (by omega), show h + 1 - 1 - h = 0 by omega, Nat.pow_zero, Nat.div_one]
    have tj : ∀ j : Nat, j < h → t j = left / (K + 1) / (K + 1) ^ (h - 1 - j) % (K + 1) := by
      intro j hj
      rw [ht j (by omega), Nat.div_div_eq_div_mul, show h + 1 - 1 - j = (h - 1 - j) + 1 by omega, Nat.pow_succ, Nat.mul_comm]
    rw [lay1, ← t0]
    by_cases q : ¬ t h = 0 ∧ ¬ ns (4 * h + 2) = 0
    · rw [if_pos q]
      exact ⟨_, _, rfl⟩
    · rw [if_neg q]
      refine lay1_f hv (t := t) (by omega) tj (fun ok => nok (fun j hj hne => ?_))
      by_cases z : j = h
      · subst z
        exact (hv j (by omega)).mpr (Decidable.byContradiction (fun u => q ⟨hne, u⟩))
      · exact ok j (by omega) hne
theorem lay2_e {mk : Nat → Int32} {s : Nat} (hs : s ≤ 50) : ∀ {n k : Nat}, lay2 mk (nI s) n k = if (∀ j : Nat, j < n → mk (k + j) ≤ 2) then nI s else -1
  | 0, k => by rw [lay2, if_pos (fun j hj => absurd hj (by omega))]
  | n + 1, k => by
    rw [lay2]
    by_cases q : mk k ≤ 2
    · rw [if_pos q, if_neg (nI_m1 (by omega)), lay2_e hs]
      by_cases z : ∀ j : Nat, j < n → mk (k + 1 + j) ≤ 2
      · rw [if_pos z, if_pos]
        intro j hj
        cases j with
        | zero => exact q
        | succ j =>
          have := z j (by omega)
          rw [show k + 1 + j = k + (j + 1) by omega] at this
          exact this
      · rw [if_neg z, if_neg]
        intro y
        refine z (fun j hj => ?_)
        have := y (j + 1) (by omega)
        rw [show k + (j + 1) = k + 1 + j by omega] at this
        exact this
    · rw [if_neg q, if_neg]
      intro y
      exact q (y 0 (by omega))
theorem rc_e {b k : Nat} {row : Nat → Int32} {t : Nat → Nat} (hk : k < 5) : ∀ {n : Nat}, (∀ j : Nat, j < n → row j = fn t j) → (∀ j : Nat, j < n → t j ≤ 5) → rcN (nI b) row (nI k) n = nI (b + ctN t k n)
  | 0, _, _ => rfl
  | n + 1, h, h5 => by
    have t5 := h5 n (by omega)
    rw [rcN, rc_e hk (fun j hj => h j (by omega)) (fun j hj => h5 j (by omega)), ctN, h n (by omega)]
    have e : (fn t n = nI k) ↔ t n = k + 1 := by
      unfold fn
      constructor
      · intro q
        by_cases z : t n = 0
        · exact absurd (q.symm.trans ((vd (by omega)).mpr z)) (nI_m1 (by omega))
        · rw [vd_p z] at q
          have := (nI_eq (by omega) (by omega)).mp q
          omega
      · intro q
        rw [q]
        exact nI_pred k
    by_cases q : t n = k + 1
    · rw [if_pos q, if_pos (e.mpr q), show (1 : Int32) = nI 1 from rfl, nI_add, Nat.add_assoc]
    · rw [if_neg q, if_neg (fun u => q (e.mp u)), Int32.add_zero]
      rfl
theorem mN_Nd (hK : K ≤ 5) (hH : Hn ≤ 5) (hw10 : ∀ h k : Nat, w h k ≤ 10) (hc : ∀ k : Nat, k < K → c k ≤ 2) (hco : ∀ k : Nat, k < K → oneN (sOfN ns (nI k) Hn) 5 = nI (c k)) (hv : ∀ h : Nat, h < Hn → (vc h = true ↔ ns (4 * h + 2) = 0)) (hw : ∀ h k : Nat, h < Hn → k < K → tb (rw (3 * k)) (rw (3 * k + 1)) (ns (4 * h)) = nI (w h k)) {ro bo : Nat → Int32} : rlM Hn (mAll K rw ns Hn ro bo) (Nd vc c K Hn w Hn 0 (fun _ => 0) none) := by
  rw [Nd_codes]
  unfold mAll
  have key : ∀ j : Nat, j ≤ (K + 1) ^ Hn → rlM Hn (mN (fLay K rw ns Hn) ro bo j) (kF (fun x o => leaf vc c K Hn w (mg K Hn 0 (fun _ => 0) x) o) none j) := by
    intro j
    induction j with
    | zero => intro _; exact rfl
    | succ j ih =>
      intro hj
      have r := ih (by omega)
      rw [mN, kF]
      generalize mN (fLay K rw ns Hn) ro bo j = q at r ⊢
      generalize kF (fun x o => leaf vc c K Hn w (mg K Hn 0 (fun _ => 0) x) o) none j = o at r ⊢
      have td : ∀ i : Nat, i < Hn → mg K Hn 0 (fun _ => 0) j i = j / (K + 1) ^ (Hn - 1 - i) % (K + 1) := by
        intro i hi
        rw [mg_d (by omega), if_pos (by omega), Nat.zero_add]
      generalize mg K Hn 0 (fun _ => 0) j = t at td ⊢
      have tK : ∀ i : Nat, i < Hn → t i ≤ K := fun i hi => by
        rw [td i hi]
        exact Nat.le_of_lt_succ (Nat.mod_lt _ (by omega))
      have sb := sm_le hw10 (t := t) Hn
      have low : ∀ row : Nat → Int32, rlM Hn (if (-1 : Int32) ≤ q.1 then (q.1, row, q.2.2) else (-1, row, row)) o := by
        intro row
        cases o with
        | none =>
          have r : q.1 = -1 := r
          rw [r, if_pos (Int32.le_refl _)]
          exact rfl
        | some p =>
          obtain ⟨r1, hp, r2⟩ : q.1 = nI p.1 ∧ p.1 ≤ 50 ∧ ∀ j : Nat, j < Hn → q.2.2 j = fn p.2 j := r
          rw [r1, if_pos (Int32.le_of_lt (m1_lt (by omega)))]
          exact ⟨rfl, hp, r2⟩
      unfold mSt leaf
      by_cases ok1 : ∀ i : Nat, i < Hn → ¬ t i = 0 → vc i = true
      · obtain ⟨row', e1, e2, -⟩ := lay1_t hv hw (t := t) (h := Hn) (left := j) (s := 0) (row := q.2.1) (Nat.le_refl _) td ok1
        rw [fLay_t e1, Nat.zero_add, lay2_e (by omega)]
        have em : ∀ k : Nat, k < K → mkM ns row' Hn k = nI (c k + ctN t k Hn) := by
          intro k hk
          unfold mkM
          rw [hco k hk]
          exact rc_e (by omega) e2 (fun i hi => by have := tK i hi; omega)
        have cb : ∀ k n : Nat, ctN t k n ≤ n := by
          intro k n
          induction n with
          | zero => exact Nat.le_refl _
          | succ n ih => rw [ctN]; split <;> omega
        have e : (∀ k : Nat, k < K → mkM ns row' Hn (0 + k) ≤ 2) ↔ ∀ k : Nat, k < K → c k + ctN t k Hn ≤ 2 := by
          constructor
          · intro y k hk
            have u := y k hk
            rw [Nat.zero_add, em k hk] at u
            have := cb k Hn
            have := hc k hk
            exact (nI_leI (b := 2) (by omega) (by omega)).mp u
          · intro y k hk
            rw [Nat.zero_add, em k hk]
            exact nI_le (b := 2) (y k hk) (by omega)
        by_cases ok2 : ∀ k : Nat, k < K → c k + ctN t k Hn ≤ 2
        · rw [if_pos (e.mpr ok2), if_pos (show okA vc c K t Hn from ⟨ok1, ok2⟩)]
          exact rl_MU (by omega) e2 r
        · rw [if_neg (fun u => ok2 (e.mp u)), if_neg (show ¬ okA vc c K t Hn from fun u => ok2 u.2)]
          exact low row'
      · obtain ⟨v, r', e1⟩ := lay1_f (K := K) (rw := rw) hv (t := t) (h := Hn) (left := j) (s := nI 0) (row := q.2.1) (Nat.le_refl _) td ok1
        rw [fLay_f e1, if_neg (show ¬ okA vc c K t Hn from fun u => ok1 u.1)]
        exact low r'
  exact key _ (Nat.le_refl _)
end MATM
