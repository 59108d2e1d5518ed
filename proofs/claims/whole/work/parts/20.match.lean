/-! MATCH: the same answer -/
theorem hi_n {W : Nat → Int32} : ∀ {n : Nat}, (∀ k : Nat, k < n → (∃ x : Nat, x ≤ 10 ∧ W k = nI x) ∨ W k = -1) → ∃ y : Nat, y ≤ 10 ∧ hiN W n = nI y ∧ ∀ k : Nat, k < n → ∀ x : Nat, x ≤ 10 → W k = nI x → x ≤ y
  | 0, _ => ⟨0, by omega, rfl, fun k hk => absurd hk (by omega)⟩
  | n + 1, h => by
    obtain ⟨y, hy, e, m⟩ := hi_n (W := W) (n := n) (fun k hk => h k (by omega))
    rw [hiN, e]
    rcases h n (by omega) with ⟨x, hx, ex⟩ | ex
    · rw [ex]
      by_cases q : y < x
      · rw [if_pos ((nI_ltI (by omega) (by omega)).mpr q)]
        refine ⟨x, hx, rfl, fun k hk z hz ez => ?_⟩
        by_cases u : k = n
        · rw [u, ex] at ez
          have := (nI_eq (by omega) (by omega)).mp ez
          omega
        · have := m k (by omega) z hz ez
          omega
      · rw [if_neg (fun u => q ((nI_ltI (by omega) (by omega)).mp u))]
        refine ⟨y, hy, rfl, fun k hk z hz ez => ?_⟩
        by_cases u : k = n
        · rw [u, ex] at ez
          have := (nI_eq (by omega) (by omega)).mp ez
          omega
        · exact m k (by omega) z hz ez
    · rw [ex, if_neg (fun u => absurd (Int32.lt_trans (m1_lt (show y < 2 ^ 31 by omega)) u) Int32.lt_irrefl)]
      refine ⟨y, hy, rfl, fun k hk z hz ez => ?_⟩
      by_cases u : k = n
      · rw [u, ex] at ez
        exact absurd ez.symm (nI_m1 (by omega))
      · exact m k (by omega) z hz ez
theorem hi_0 {W : Nat → Int32} : ∀ {n : Nat}, (∀ k : Nat, k < n → W k = 0) → hiN W n = 0
  | 0, _ => rfl
  | n + 1, h => by rw [hiN, hi_0 (fun k hk => h k (by omega)), h n (by omega)]; exact ite_self _
def LmN (f : Nat → Nat) : Nat → Nat
  | 0 => 0
  | n + 1 => LmN f n + f (4 - n)
theorem lm_n {H : Nat → Int32} {f : Nat → Nat} (h : ∀ j : Nat, j < 5 → H j = nI (f j)) : ∀ {n : Nat}, lmN H n = nI (LmN f n)
  | 0 => rfl
  | n + 1 => by rw [lmN, LmN, lm_n h, h (4 - n) (by omega), nI_add]
theorem Lm_le {f : Nat → Nat} (h : ∀ j : Nat, f j ≤ 10) : ∀ n : Nat, LmN f n ≤ 10 * n
  | 0 => Nat.le_refl _
  | n + 1 => by
    have := Lm_le h n
    have := h (4 - n)
    rw [LmN]
    omega
def tz (Hn : Nat) : Bst → Prop
  | none => True
  | some p => ∀ j : Nat, Hn ≤ j → p.2 j = 0
theorem Nd_tz {vc : Nat → Bool} {c : Nat → Nat} {K Hn : Nat} {w : Nat → Nat → Nat} : ∀ {n h : Nat} {t : Nat → Nat} {o : Bst}, h + n = Hn → (∀ j : Nat, Hn ≤ j → t j = 0) → tz Hn o → tz Hn (Nd vc c K Hn w n h t o)
  | 0, h, t, o, e, ht, ho => by
    rw [Nd, leaf]
    split
    · cases o with
      | none => exact ht
      | some p =>
        unfold bU
        simp only
        split
        · exact ht
        · exact ho
    · exact ho
  | n + 1, h, t, o, e, ht, ho => by
    rw [Nd]
    have : ∀ j : Nat, tz Hn (kF (fun d o => Nd vc c K Hn w n (h + 1) (un t h d) o) o j) := by
      intro j
      induction j with
      | zero => exact ho
      | succ j ih =>
        rw [kF]
        exact Nd_tz (by omega) (fun i hi => by rw [un_n (by omega)]; exact ht i hi) ih
    exact this _
section REL4
variable {K Hn : Nat} {kd fa hd lt bd eg br sk sh st : Nat → Int32} {Sn : Nat} {yr : Int32} {rw ns si : Nat → Int32}
theorem e_sol (ht : Rt K Hn kd fa hd) (h : Rb K Hn kd fa hd lt bd eg br sk sh st Sn yr rw ns si) (bes ro bo : Nat → Int32) : (solC K Hn kd fa hd lt bd bes).1 = (mAll K rw ns Hn ro bo).1 ∧ (∀ j : Nat, j < Hn → (solC K Hn kd fa hd lt bd bes).2 j = (mAll K rw ns Hn ro bo).2.2 j) ∧ ∀ j : Nat, Hn ≤ j → (solC K Hn kd fa hd lt bd bes).2 j = -1 := by
  obtain ⟨hK, hH, h0, hkf, hhd⟩ := ht
  obtain ⟨r1, r2, r3, r4, r5, r6, r7, r8, r9, r10, r11⟩ := h
  let vc : Nat → Bool := fun x => decide (bd x = 0)
  let c : Nat → Nat := fun k => hc lt (nI k)
  let w : Nat → Nat → Nat := fun x k => (tb (rw (3 * k)) (rw (3 * k + 1)) (ns (4 * x))).toNatClampNeg
  let M := Wt K Hn kd fa hd bd
  have hwv : ∀ x k : Nat, tb (rw (3 * k)) (rw (3 * k + 1)) (ns (4 * x)) = nI (w x k) ∧ w x k ≤ 10 := by
    intro x k
    obtain ⟨t, h10, e⟩ := tb_r (rw (3 * k)) (rw (3 * k + 1)) (ns (4 * x))
    show _ = nI (tb _ _ _).toNatClampNeg ∧ (tb _ _ _).toNatClampNeg ≤ 10
    rw [e, nI_clamp (by omega)]
    exact ⟨rfl, h10⟩
  have hM : ∀ x k : Nat, x < Hn → k < K → vc x = true → M x k = nI (w x k) := by
    intro x k hx hk hv
    have hb : bd x = 0 := of_decide_eq_true hv
    show wv (vacB Hn bd x) K kd fa (hd x) k = _
    have vb : vacB Hn bd x = 1 := if_pos ⟨hx, hb⟩
    rw [wv, vb, if_neg (show ¬ (1 : Int32) = 0 by decide), ykAt_in hk hK]
    obtain ⟨⟨a, ha, ea⟩, b, hb', eb⟩ := hkf k hk
    obtain ⟨d, hd', ed⟩ := hhd x hx
    rw [ea, eb, ed, yt a ha b hb' d hd', ← (hwv x k).1, (r1 k hk).1, (r1 k hk).2.1, (r2 x hx).1, ea, eb, ed]
  have hM1 : ∀ x k : Nat, k < 5 → ¬ (x < Hn ∧ k < K ∧ vc x = true) → M x k = 0 ∨ M x k = -1 := by
    intro x k h5 hn
    show wv (vacB Hn bd x) K kd fa (hd x) k = 0 ∨ wv (vacB Hn bd x) K kd fa (hd x) k = -1
    rw [wv, vacB]
    by_cases q : x < Hn ∧ bd x = 0
    · right
      rw [if_pos q, if_neg (by decide), ykAt, if_neg (fun u => hn ⟨q.1, (nI_ltI (by omega) (by omega)).mp u.2, decide_eq_true q.2⟩)]
    · left
      rw [if_neg q, if_pos rfl]
  have hM0 : ∀ x k : Nat, k < 5 → ¬ (x < Hn ∧ k < K ∧ vc x = true) → ¬ 0 < M x k := by
    intro x k h5 hn
    rcases hM1 x k h5 hn with q | q <;> rw [q] <;> decide
  have hMr : ∀ x k : Nat, k < 5 → (∃ y : Nat, y ≤ 10 ∧ M x k = nI y) ∨ M x k = -1 := by
    intro x k h5
    by_cases q : x < Hn ∧ k < K ∧ vc x = true
    · exact Or.inl ⟨w x k, (hwv x k).2, hM x k q.1 q.2.1 q.2.2⟩
    · rcases hM1 x k h5 q with u | u
      · exact Or.inl ⟨0, by omega, u⟩
      · exact Or.inr u
  have hHi : ∀ x : Nat, (hiN (M x) 5).toNatClampNeg ≤ 10 ∧ hiN (M x) 5 = nI (hiN (M x) 5).toNatClampNeg ∧ ∀ k : Nat, k < 5 → ∀ y : Nat, y ≤ 10 → M x k = nI y → y ≤ (hiN (M x) 5).toNatClampNeg := by
    intro x
    obtain ⟨y, hy, e, m⟩ := hi_n (fun k hk => hMr x k hk)
    rw [e, nI_clamp (by omega)]
    exact ⟨hy, rfl, m⟩
  let f : Nat → Nat := fun x => (hiN (M x) 5).toNatClampNeg
  let L : Nat → Nat := fun x => LmN f (5 - x)
  have hl : ∀ x : Nat, x ≤ 5 → limV (fun x => hiN (M x) 5) x = nI (L x) := fun x _ => lm_n (fun j _ => (hHi j).2.1)
  have f0 : ∀ x : Nat, Hn ≤ x → f x = 0 := by
    intro x hx
    show (hiN (M x) 5).toNatClampNeg = 0
    rw [hi_0]
    · rfl
    · intro k hk
      show wv (vacB Hn bd x) K kd fa (hd x) k = 0
      have vb : vacB Hn bd x = 0 := if_neg (fun u => absurd u.1 (by omega))
      rw [wv, vb, if_pos rfl]
  have Ls : ∀ x : Nat, x < 5 → L x = L (x + 1) + f x := by
    intro x hx
    show LmN f (5 - x) = LmN f (5 - (x + 1)) + f x
    rw [show 5 - x = (5 - (x + 1)) + 1 by omega, LmN, show 4 - (5 - (x + 1)) = x by omega]
  have L0 : ∀ i x : Nat, x + i = 5 → Hn ≤ x → L x = 0 := by
    intro i
    induction i with
    | zero =>
      intro x hx _
      show LmN f (5 - x) = 0
      rw [show 5 - x = 0 by omega]
      rfl
    | succ i ih =>
      intro x hx hh
      rw [Ls x (by omega), ih (x + 1) (by omega) (by omega), f0 x hh]
  have kC := sF_Nd (vc := vc) (c := c) (K := K) (Hn := Hn) (w := w) (M := M) (lim := limV (fun x => hiN (M x) 5)) (L := L) hK hH (fun x k => (hwv x k).2) r7 hM hM0 hl (fun x h1 h2 => by rw [hl x h2, L0 (5 - x) x (by omega) h1]; rfl) (fun x => by
      have := Lm_le (f := f) (fun j => (hHi j).1) (5 - x)
      show LmN f (5 - x) ≤ 50
      omega) (fun x hx => by
      have e := Ls x (by omega)
      refine ⟨by omega, fun k hv hk => ?_⟩
      rw [e, Nat.add_sub_cancel_left]
      exact (hHi x).2.2 k (by omega) (w x k) (hwv x k).2 (hM x k hx hk hv)) (bes := bes) (n := Hn) (h := 0) (m := 5) (room := rmv K lt) (t := fun _ => 0) (q := (-1, bes)) (o := none) (by omega) (by omega) ⟨fun j hj => absurd hj (by omega), fun k hk => r7 k hk⟩ (fun _ _ => rfl) (fun _ _ => Nat.zero_le _) (fun k hk => by
      rw [rmv, if_pos (z_ixn hk (by omega)), bc_hc]
      have := r7 k hk
      show 2 - nI (hc lt (nI k)) = nI (2 - (hc lt (nI k) + 0))
      rw [Nat.add_zero]
      exact pk_sub (a := 2) this) rfl
  have kM := mN_Nd (vc := vc) (c := c) (K := K) (Hn := Hn) (w := w) (rw := rw) (ns := ns) hK hH (fun x k => (hwv x k).2) r7 (fun k hk => by
      rw [so_h5 hH (nI_m1 (by omega)) (fun x hx => (r2 x hx).2.1) (fun x a b => (r3 x a b).1), on_hc]) (fun x hx => by
      rw [(r2 x hx).2.2.1]
      exact ⟨fun q => of_decide_eq_true q, fun q => decide_eq_true q⟩) (fun x k _ _ => (hwv x k).1) (ro := ro) (bo := bo)
  have kG := Nd_ge (vc := vc) (c := c) (K := K) (Hn := Hn) (w := w) (n := Hn) (h := 0) (t := fun _ => 0) (o := none) (s := fun _ => 0) (by omega) ⟨fun _ _ => rfl, fun _ _ => rfl, fun _ _ _ => Nat.zero_le _⟩ ⟨fun j _ hne => absurd rfl hne, fun k hk => by
      have e : ∀ n : Nat, ctN (fun _ => 0) k n = 0 := by
        intro n
        induction n with
        | zero => rfl
        | succ n ih => rw [ctN, ih, if_neg (by omega)]
      rw [e]
      exact r7 k hk⟩
  have kZ := Nd_tz (vc := vc) (c := c) (K := K) (Hn := Hn) (w := w) (n := Hn) (h := 0) (t := fun _ => 0) (o := none) (by omega) (fun _ _ => rfl) True.intro
  have eS : solC K Hn kd fa hd lt bd bes = sF M (limV (fun x => hiN (M x) 5)) 5 0 (rmv K lt) (fn (fun _ => 0)) (nI (smN w (fun _ => 0) 0)) (-1, bes) := rfl
  rw [eS]
  generalize sF M (limV (fun x => hiN (M x) 5)) 5 0 (rmv K lt) (fn (fun _ => 0)) (nI (smN w (fun _ => 0) 0)) (-1, bes) = q at kC ⊢
  generalize mAll K rw ns Hn ro bo = q2 at kM ⊢
  generalize Nd vc c K Hn w Hn 0 (fun _ => 0) none = o at kC kM kG kZ
  cases o with
  | none => exact absurd kG (fun q => q)
  | some p =>
    obtain ⟨a1, -⟩ : q = (nI p.1, fn p.2) ∧ p.1 ≤ 50 := kC
    obtain ⟨b1, -, b2⟩ : q2.1 = nI p.1 ∧ p.1 ≤ 50 ∧ ∀ j : Nat, j < Hn → q2.2.2 j = fn p.2 j := kM
    subst a1
    refine ⟨b1.symm, fun j hj => (b2 j hj).symm, fun j hj => ?_⟩
    show nI (p.2 j) - 1 = -1
    rw [show p.2 j = 0 from kZ j hj]
    decide
theorem e_match (ht : Rt K Hn kd fa hd) (h : Rb K Hn kd fa hd lt bd eg br sk sh st Sn yr rw ns si) (bes ro bo : Nat → Int32) {what : Int32} (hK0 : 0 < K) (hw : what = 0 ∨ ∃ w : Nat, w < 5 ∧ what = nI (10 + w)) : matC (solC K Hn kd fa hd lt bd bes) what = (fMatM K rw ns Hn ro bo what).1 := by
  obtain ⟨a1, a2, a3⟩ := e_sol ht h bes ro bo
  have hH0 : ¬ Hn = 0 := fun q => by have := ht.2.2.1.mpr q; omega
  unfold fMatM
  rcases hw with rfl | ⟨w, hw, rfl⟩
  · rw [if_pos (Or.inl rfl), if_neg hH0]
    show matC (solC K Hn kd fa hd lt bd bes) 0 = matA (mAll K rw ns Hn ro bo) Hn 0
    rw [matC, matA, if_pos rfl, if_pos rfl, a1]
  · rw [if_pos (Or.inr ⟨nI_le (a := 10) (by omega) (by omega), nI_le (b := 14) (by omega) (by omega)⟩), if_neg hH0]
    show matC (solC K Hn kd fa hd lt bd bes) (nI (10 + w)) = matA (mAll K rw ns Hn ro bo) Hn (nI (10 + w))
    rw [matC, matA, if_neg (nI_ne0 (by omega) (by omega)), if_neg (nI_ne0 (by omega) (by omega)), nI_clamp (by omega), show 10 + w - 10 = w by omega]
    by_cases q : w < Hn
    · rw [if_pos q]; exact a2 w q
    · rw [if_neg q]; exact a3 w (by omega)
theorem e_match0 (ht : Rt K Hn kd fa hd) (ro bo : Nat → Int32) {what : Int32} (hr : ¬ (what = 0 ∨ (10 ≤ what ∧ what ≤ 14)) ∨ ¬ 0 < K) : refM what = (fMatM K rw ns Hn ro bo what).1 := by
  unfold refM fMatM
  by_cases q : what = 0 ∨ (10 ≤ what ∧ what ≤ 14)
  · rw [if_pos q, if_pos q]
    have : Hn = 0 := ht.2.2.1.mp (by rcases hr with u | u; exact absurd q u; omega)
    rw [if_pos this]
  · rw [if_neg q, if_neg q]
end REL4
