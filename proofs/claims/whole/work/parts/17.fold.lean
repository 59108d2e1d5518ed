/-! MATCH: the abstract search -/
def un (f : Nat → Nat) (i v : Nat) : Nat → Nat := fun j => if j = i then v else f j
theorem un_s {f : Nat → Nat} {i v : Nat} : un f i v i = v := if_pos rfl
theorem un_n {f : Nat → Nat} {i v j : Nat} (h : ¬ j = i) : un f i v j = f j := if_neg h
theorem un_i {f : Nat → Nat} {i v : Nat} (h : f i = v) : un f i v = f := by
  funext j
  by_cases q : j = i
  · subst q; rw [un_s, h]
  · exact un_n q
abbrev Bst := Option (Nat × (Nat → Nat))
def bU (v : Nat) (t : Nat → Nat) : Bst → Bst
  | none => some (v, t)
  | some q => if q.1 < v then some (v, t) else some q
def cov (x : Nat) : Bst → Prop
  | none => False
  | some q => x ≤ q.1
theorem bU_id {v : Nat} {t : Nat → Nat} {o : Bst} (h : cov v o) : bU v t o = o := by
  cases o with
  | none => exact absurd h (fun q => q)
  | some q => exact if_neg (Nat.not_lt.mpr h)
theorem cov_U {v : Nat} {t : Nat → Nat} {o : Bst} : cov v (bU v t o) := by
  cases o with
  | none => exact Nat.le_refl v
  | some q =>
    unfold bU
    simp only
    split
    · exact Nat.le_refl v
    · exact Nat.not_lt.mp (by assumption)
theorem cov_m {x v : Nat} {t : Nat → Nat} {o : Bst} (h : cov x o) : cov x (bU v t o) := by
  cases o with
  | none => exact absurd h (fun q => q)
  | some q =>
    unfold bU
    simp only
    split
    · exact Nat.le_trans h (Nat.le_of_lt (by assumption))
    · exact h
def ctN (t : Nat → Nat) (k : Nat) : Nat → Nat
  | 0 => 0
  | h + 1 => ctN t k h + (if t h = k + 1 then 1 else 0)
def smN (w : Nat → Nat → Nat) (t : Nat → Nat) : Nat → Nat
  | 0 => 0
  | h + 1 => smN w t h + (if t h = 0 then 0 else w h (t h - 1))
theorem ct_c {t s : Nat → Nat} {k : Nat} : ∀ {n : Nat}, (∀ j : Nat, j < n → s j = t j) → ctN s k n = ctN t k n
  | 0, _ => rfl
  | n + 1, h => by rw [ctN, ctN, ct_c (fun j hj => h j (by omega)), h n (by omega)]
theorem sm_c {w : Nat → Nat → Nat} {t s : Nat → Nat} : ∀ {n : Nat}, (∀ j : Nat, j < n → s j = t j) → smN w s n = smN w t n
  | 0, _ => rfl
  | n + 1, h => by rw [smN, smN, sm_c (fun j hj => h j (by omega)), h n (by omega)]
theorem ct_m {t : Nat → Nat} {k : Nat} : ∀ {m n : Nat}, n ≤ m → ctN t k n ≤ ctN t k m
  | 0, n, h => by
    obtain rfl : n = 0 := by omega
    exact Nat.le_refl _
  | m + 1, n, h => by
    by_cases q : n = m + 1
    · rw [q]; exact Nat.le_refl _
    · have := ct_m (t := t) (k := k) (show n ≤ m by omega)
      rw [ctN]
      omega
theorem sm_le {w : Nat → Nat → Nat} (hw : ∀ h k : Nat, w h k ≤ 10) {t : Nat → Nat} : ∀ n : Nat, smN w t n ≤ 10 * n
  | 0 => Nat.le_refl _
  | n + 1 => by
    have := sm_le hw (t := t) n
    have := hw n (t n - 1)
    rw [smN]
    split <;> omega
abbrev okA (vc : Nat → Bool) (c : Nat → Nat) (K : Nat) (t : Nat → Nat) (n : Nat) : Prop := (∀ h : Nat, h < n → ¬ t h = 0 → vc h = true) ∧ ∀ k : Nat, k < K → c k + ctN t k n ≤ 2
section FOLD
variable (vc : Nat → Bool) (c : Nat → Nat) (K Hn : Nat) (w : Nat → Nat → Nat)
def leaf (t : Nat → Nat) (o : Bst) : Bst := if okA vc c K t Hn then bU (smN w t Hn) t o else o
def Nd : Nat → Nat → (Nat → Nat) → Bst → Bst
  | 0, _, t, o => leaf vc c K Hn w t o
  | n + 1, h, t, o => kF (fun d o => Nd n (h + 1) (un t h d) o) o (K + 1)
def cmp (K n h : Nat) (t s : Nat → Nat) : Prop := (∀ j : Nat, j < h → s j = t j) ∧ (∀ j : Nat, h + n ≤ j → s j = t j) ∧ ∀ j : Nat, h ≤ j → j < h + n → s j ≤ K
variable {vc : Nat → Bool} {c : Nat → Nat} {K Hn : Nat} {w : Nat → Nat → Nat}
theorem cmp_s {n h d : Nat} {t s : Nat → Nat} (hd : d ≤ K) (q : cmp K n (h + 1) (un t h d) s) : cmp K (n + 1) h t s := by
  obtain ⟨a, b, e⟩ := q
  refine ⟨fun j hj => ?_, fun j hj => ?_, fun j h1 h2 => ?_⟩
  · rw [a j (by omega), un_n (by omega)]
  · rw [b j (by omega), un_n (by omega)]
  · by_cases z : j = h
    · rw [a j (by omega), z, un_s]; exact hd
    · exact e j (by omega) (by omega)
theorem cmp_d {n h : Nat} {t s : Nat → Nat} (q : cmp K (n + 1) h t s) : cmp K n (h + 1) (un t h (s h)) s := by
  obtain ⟨a, b, e⟩ := q
  refine ⟨fun j hj => ?_, fun j hj => ?_, fun j h1 h2 => e j (by omega) (by omega)⟩
  · by_cases z : j = h
    · rw [z, un_s]
    · rw [un_n z]; exact a j (by omega)
  · rw [un_n (by omega)]; exact b j (by omega)
theorem kF_same {α : Type} {f : Nat → α → α} {q : α} : ∀ {n : Nat}, (∀ i : Nat, i < n → f i q = q) → kF f q n = q
  | 0, _ => rfl
  | n + 1, h => by rw [kF, kF_same (fun i hi => h i (by omega)), h n (by omega)]
theorem kF_congr {α : Type} {f g : Nat → α → α} {q : α} : ∀ {n : Nat}, (∀ i : Nat, i < n → ∀ q : α, f i q = g i q) → kF f q n = kF g q n
  | 0, _ => rfl
  | n + 1, h => by rw [kF, kF, kF_congr (fun i hi => h i (by omega)), h n (by omega)]
theorem kF_add {α : Type} {f : Nat → α → α} {q : α} {m : Nat} : ∀ {n : Nat}, kF f q (m + n) = kF (fun i => f (m + i)) (kF f q m) n
  | 0 => rfl
  | n + 1 => by rw [show m + (n + 1) = (m + n) + 1 by omega, kF, kF_add, kF]
theorem kF_mul {α : Type} {f : Nat → α → α} {q : α} {b : Nat} : ∀ {a : Nat}, kF f q (a * b) = kF (fun d q => kF (fun r => f (d * b + r)) q b) q a
  | 0 => by rw [Nat.zero_mul]; rfl
  | a + 1 => by rw [Nat.succ_mul, kF_add, kF_mul, kF]
theorem Nd_le : ∀ {n h : Nat} {t : Nat → Nat} {o : Bst}, h + n = Hn → (∀ s : Nat → Nat, cmp K n h t s → okA vc c K s Hn → cov (smN w s Hn) o) → Nd vc c K Hn w n h t o = o
  | 0, h, t, o, _, q => by
    rw [Nd, leaf]
    split
    · exact bU_id (q t ⟨fun _ _ => rfl, fun _ _ => rfl, fun j h1 h2 => absurd h2 (by omega)⟩ (by assumption))
    · rfl
  | n + 1, h, t, o, e, q => by
    rw [Nd]
    exact kF_same (fun d hd => Nd_le (by omega) (fun s hs => q s (cmp_s (by omega) hs)))
theorem Nd_mono : ∀ {n h : Nat} {t : Nat → Nat} {o : Bst} {x : Nat}, cov x o → cov x (Nd vc c K Hn w n h t o)
  | 0, h, t, o, x, q => by
    rw [Nd, leaf]
    split
    · exact cov_m q
    · exact q
  | n + 1, h, t, o, x, q => by
    rw [Nd]
    have : ∀ j : Nat, cov x (kF (fun d o => Nd vc c K Hn w n (h + 1) (un t h d) o) o j) := by
      intro j
      induction j with
      | zero => exact q
      | succ j ih => rw [kF]; exact Nd_mono ih
    exact this _
theorem Nd_ge : ∀ {n h : Nat} {t : Nat → Nat} {o : Bst} {s : Nat → Nat}, h + n = Hn → cmp K n h t s → okA vc c K s Hn → cov (smN w s Hn) (Nd vc c K Hn w n h t o)
  | 0, h, t, o, s, e, q, ok => by
    have : s = t := by
      funext j
      by_cases z : j < h
      · exact q.1 j z
      · exact q.2.1 j (by omega)
    subst this
    rw [Nd, leaf, if_pos ok]
    exact cov_U
  | n + 1, h, t, o, s, e, q, ok => by
    rw [Nd]
    have hs : s h ≤ K := q.2.2 h (by omega) (by omega)
    have : ∀ j : Nat, s h < j → cov (smN w s Hn) (kF (fun d o => Nd vc c K Hn w n (h + 1) (un t h d) o) o j) := by
      intro j
      induction j with
      | zero => intro z; omega
      | succ j ih =>
        intro z
        rw [kF]
        by_cases y : j = s h
        · rw [y]
          exact Nd_ge (by omega) (cmp_d q) ok
        · exact Nd_mono (ih (by omega))
    exact this _ (by omega)
/-- codes -/
def mg (K : Nat) : Nat → Nat → (Nat → Nat) → Nat → (Nat → Nat)
  | 0, _, t, _ => t
  | n + 1, h, t, x => mg K n (h + 1) (un t h (x / (K + 1) ^ n)) (x % (K + 1) ^ n)
theorem Nd_codes : ∀ {n h : Nat} {t : Nat → Nat} {o : Bst}, Nd vc c K Hn w n h t o = kF (fun x o => leaf vc c K Hn w (mg K n h t x) o) o ((K + 1) ^ n)
  | 0, h, t, o => rfl
  | n + 1, h, t, o => by
    rw [Nd, Nat.pow_succ, Nat.mul_comm, kF_mul]
    apply kF_congr
    intro d hd o
    rw [Nd_codes]
    apply kF_congr
    intro r hr o
    have hp : 0 < (K + 1) ^ n := Nat.pow_pos (by omega)
    rw [mg, Nat.mul_comm d, Nat.mul_add_div hp, Nat.mul_add_mod, Nat.div_eq_of_lt hr, Nat.mod_eq_of_lt hr]
    rfl
theorem mg_d : ∀ {n h : Nat} {t : Nat → Nat} {x j : Nat}, x < (K + 1) ^ n → mg K n h t x j = if h ≤ j ∧ j < h + n then x / (K + 1) ^ (h + n - 1 - j) % (K + 1) else t j
  | 0, h, t, x, j, hx => by rw [mg, if_neg (by omega)]
  | n + 1, h, t, x, j, hx => by
    have hp : 0 < (K + 1) ^ n := Nat.pow_pos (by omega)
    rw [mg, mg_d (Nat.mod_lt _ hp)]
    by_cases q : h + 1 ≤ j ∧ j < h + 1 + n
    · rw [if_pos q, if_pos (by omega)]
      have e1 : h + 1 + n - 1 - j = h + n - j := by omega
      have e2 : h + (n + 1) - 1 - j = h + n - j := by omega
      have e3 : n = (h + n - j) + (j - h) := by omega
      have e4 : j - h = (j - h - 1) + 1 := by omega
      rw [e1, e2]
      generalize h + n - j = a at *
      generalize j - h = b at *
      subst e3
      rw [Nat.pow_add, Nat.mod_mul_right_div_self, e4, Nat.pow_succ, Nat.mul_comm, Nat.mod_mul_right_mod]
    · rw [if_neg q]
      by_cases z : j = h
      · subst z
        rw [un_s, if_pos (by omega), show j + (n + 1) - 1 - j = n by omega, Nat.mod_eq_of_lt]
        rw [Nat.pow_succ] at hx
        exact Nat.div_lt_of_lt_mul hx
      · rw [un_n z, if_neg (by omega)]
end FOLD
