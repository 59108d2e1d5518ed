/-! THE RELATION between the class's state and the reference's, and what they answer alike -/
def hc (lt : Nat → Int32) (k : Int32) : Nat := (if lt 0 = k then 1 else 0) + (if lt 1 = k then 1 else 0) + (if lt 2 = k then 1 else 0) + (if lt 3 = k then 1 else 0) + (if lt 4 = k then 1 else 0)
/-- the tower -/
def Rt (K Hn : Nat) (kd fa hd : Nat → Int32) : Prop := K ≤ 5 ∧ Hn ≤ 5 ∧ (K = 0 ↔ Hn = 0) ∧ (∀ k : Nat, k < K → (∃ a : Nat, a < 5 ∧ kd k = nI a) ∧ ∃ a : Nat, a < 10 ∧ fa k = nI a) ∧ ∀ h : Nat, h < Hn → ∃ a : Nat, a < 10 ∧ hd h = nI a
/-- a book: what an image keeps -/
def Rb (K Hn : Nat) (kd fa hd lt bd eg br sk sh st : Nat → Int32) (Sn : Nat) (yr : Int32) (rw ns si : Nat → Int32) : Prop :=
  (∀ k : Nat, k < K → rw (3 * k) = kd k ∧ rw (3 * k + 1) = fa k ∧ rw (3 * k + 2) = br k) ∧
  (∀ h : Nat, h < Hn → ns (4 * h) = hd h ∧ ns (4 * h + 1) = lt h ∧ ns (4 * h + 2) = bd h ∧ ns (4 * h + 3) = eg h) ∧
  (∀ h : Nat, Hn ≤ h → h < 5 → lt h = -1 ∧ bd h = 0 ∧ eg h = 0) ∧
  (∀ k : Nat, K ≤ k → k < 5 → br k = 0) ∧
  (∀ i : Nat, i < Sn → si (3 * i) = sk i ∧ si (3 * i + 1) = sh i ∧ si (3 * i + 2) = st i) ∧
  (∀ h : Nat, h < 5 → (lt h = -1 ∧ (bd h = 0 ∨ bd h = 2)) ∨ ∃ k : Nat, k < K ∧ lt h = nI k ∧ bd h = 1) ∧
  (∀ k : Nat, k < K → hc lt (nI k) ≤ 2) ∧
  (∀ i : Nat, i < Sn → ∃ a : Nat, a < 10 ∧ sh i = nI a) ∧
  stOk st ∧ Sn ≤ 8 ∧ ∃ Y : Nat, Y ≤ 99 ∧ yr = nI Y
theorem yt : ∀ a, a < 5 → ∀ b, b < 10 → ∀ c, c < 10 → yk (nI a) (nI b) (nI c) = tb (nI a) (nI b) (nI c) := by decide +kernel
theorem yt_r : ∀ a, a < 5 → ∀ b, b < 10 → ∀ c, c < 10 → ∃ t : Nat, t ≤ 10 ∧ yk (nI a) (nI b) (nI c) = nI t := fun a ha b hb c hc => by
  rw [yt a ha b hb c hc]
  exact tb_r _ _ _
theorem letOk_of {K Hn : Nat} {kd fa hd lt bd eg br sk sh st : Nat → Int32} {Sn : Nat} {yr : Int32} {rw ns si : Nat → Int32} (hH : Hn ≤ 5) (h : Rb K Hn kd fa hd lt bd eg br sk sh st Sn yr rw ns si) : letOk ns K Hn := by
  intro a ha
  rw [(h.2.1 a ha).2.1]
  rcases h.2.2.2.2.2.1 a (by omega) with q | ⟨k, hk, e, -⟩
  · exact Or.inl q.1
  · exact Or.inr ⟨k, hk, e⟩
theorem ykAt_in {K : Nat} {kd fa : Nat → Int32} {k : Nat} {hard : Int32} (hk : k < K) (hK : K ≤ 5) : ykAt K kd fa (nI k) hard = yk (kd k) (fa k) hard := by
  rw [ykAt, if_pos (z_ixn hk (by omega)), nI_clamp (by omega)]
theorem ykAt_m1 {K : Nat} {kd fa : Nat → Int32} {hard : Int32} : ykAt K kd fa (-1) hard = -1 := by
  rw [ykAt, if_neg (fun q => q.1 (by decide))]
/-- sets of holes -/
theorem so_h {ns lt : Nat → Int32} {k : Int32} : ∀ {n : Nat}, (∀ h : Nat, h < n → ns (4 * h + 1) = lt h) → sOfN ns k n = hOfN lt k n
  | 0, _ => rfl
  | n + 1, h => by
    rw [sOfN, hOfN, so_h (fun a ha => h a (by omega)), h n (by omega)]
    split
    · rfl
    · simp
theorem ho_ext {lt : Nat → Int32} {k : Int32} {Hn : Nat} (hk : ¬ k = -1) (ho : ∀ h : Nat, Hn ≤ h → h < 5 → lt h = -1) : ∀ n : Nat, Hn + n ≤ 5 → hOfN lt k (Hn + n) = hOfN lt k Hn
  | 0, _ => rfl
  | n + 1, h => by
    rw [show Hn + (n + 1) = (Hn + n) + 1 by omega, hOfN, if_neg (fun q => hk (by rw [← q]; exact ho _ (by omega) (by omega)))]
    exact ho_ext hk ho n (by omega)
theorem so_h5 {ns lt : Nat → Int32} {k : Int32} {Hn : Nat} (hH : Hn ≤ 5) (hk : ¬ k = -1) (h : ∀ h : Nat, h < Hn → ns (4 * h + 1) = lt h) (ho : ∀ h : Nat, Hn ≤ h → h < 5 → lt h = -1) : sOfN ns k Hn = hOfN lt k 5 := by
  rw [so_h h]
  have := ho_ext hk ho (5 - Hn) (by omega)
  rw [show Hn + (5 - Hn) = 5 by omega] at this
  exact this.symm
theorem bc_hc (lt : Nat → Int32) (k : Int32) : bitc (hOfN lt k 5) = nI (hc lt k) := by
  unfold hc
  simp only [hOfN]
  by_cases a : lt 0 = k <;> by_cases b : lt 1 = k <;> by_cases c : lt 2 = k <;> by_cases d : lt 3 = k <;> by_cases e : lt 4 = k <;> simp only [a, b, c, d, e, if_true, if_false, decide_true, decide_false] <;> decide
theorem on_hc (lt : Nat → Int32) (k : Int32) : oneN (hOfN lt k 5) 5 = nI (hc lt k) := by
  unfold hc
  simp only [hOfN]
  by_cases a : lt 0 = k <;> by_cases b : lt 1 = k <;> by_cases c : lt 2 = k <;> by_cases d : lt 3 = k <;> by_cases e : lt 4 = k <;> simp only [a, b, c, d, e, if_true, if_false, decide_true, decide_false] <;> decide
theorem nI_m1 {k : Nat} (h : k < 2 ^ 31) : ¬ nI k = -1 := nI_nm1 h
/-- sums of eggs -/
theorem ei_ext {ns eg : Nat → Int32} {x : Int32} : ∀ {n : Nat}, (∀ h : Nat, h < n → ns (4 * h + 3) = eg h) → eInN ns x n = eInN (fun j => eg ((j - 3) / 4)) x n
  | 0, _ => rfl
  | n + 1, h => by
    rw [eInN, eInN, ei_ext (fun a ha => h a (by omega)), h n (by omega), show (4 * n + 3 - 3) / 4 = n by omega]
theorem sn_ext {f : Nat → Int32} {n : Nat} : ∀ m : Nat, (∀ h : Nat, n ≤ h → h < n + m → f h = 0) → sumN f (n + m) = sumN f n
  | 0, _ => rfl
  | m + 1, h => by
    rw [show n + (m + 1) = (n + m) + 1 by omega, sumN, h (n + m) (by omega) (by omega), sn_ext m (fun a h1 h2 => h a h1 (by omega))]
    simp
theorem ei_31 {ns eg : Nat → Int32} : ∀ {n : Nat}, n ≤ 5 → (∀ h : Nat, h < n → ns (4 * h + 3) = eg h) → eInN ns 31 n = sumN eg n
  | 0, _, _ => rfl
  | n + 1, hn, h => by
    rw [eInN, sumN, ei_31 (by omega) (fun a ha => h a (by omega)), h n (by omega)]
    have e : ((31 : Int32) >>> (nI n &&& 31)) &&& 1 = 1 := by
      rcases (show n = 0 ∨ n = 1 ∨ n = 2 ∨ n = 3 ∨ n = 4 by omega) with rfl | rfl | rfl | rfl | rfl <;> decide
    rw [e]
    simp
theorem eo_ei {ns lt eg : Nat → Int32} {k : Int32} {Hn : Nat} (hH : Hn ≤ 5) (hk : ¬ k = -1) (h1 : ∀ h : Nat, h < Hn → ns (4 * h + 1) = lt h) (h3 : ∀ h : Nat, h < Hn → ns (4 * h + 3) = eg h) (ho : ∀ h : Nat, Hn ≤ h → h < 5 → lt h = -1) : eInN ns (sOfN ns k Hn) Hn = eOfN lt eg k 5 := by
  rw [so_h5 hH hk h1 ho]
  have key : ∀ n : Nat, n ≤ Hn → eInN ns (hOfN lt k 5) n = eOfN lt eg k n := by
    intro n
    induction n with
    | zero => intro _; rfl
    | succ n ih =>
      intro hn
      rw [eInN, eOfN, ih (by omega), h3 n (by omega)]
      have e : ((hOfN lt k 5) >>> (nI n &&& 31)) &&& 1 = if lt n = k then 1 else 0 := by
        simp only [hOfN]
        rcases (show n = 0 ∨ n = 1 ∨ n = 2 ∨ n = 3 ∨ n = 4 by omega) with rfl | rfl | rfl | rfl | rfl <;>
        by_cases a : lt 0 = k <;> by_cases b : lt 1 = k <;> by_cases c : lt 2 = k <;> by_cases d : lt 3 = k <;> by_cases e : lt 4 = k <;> simp only [a, b, c, d, e, if_true, if_false, decide_true, decide_false] <;> decide
      rw [e]
      split
      · simp
      · simp
  rw [key Hn (Nat.le_refl _)]
  have ext : ∀ m : Nat, Hn + m ≤ 5 → eOfN lt eg k (Hn + m) = eOfN lt eg k Hn := by
    intro m
    induction m with
    | zero => intro _; rfl
    | succ m ih =>
      intro hm
      rw [show Hn + (m + 1) = (Hn + m) + 1 by omega, eOfN, if_neg (fun q => hk (by rw [← q]; exact ho _ (by omega) (by omega)))]
      exact ih (by omega)
  have := ext (5 - Hn) (by omega)
  rw [show Hn + (5 - Hn) = 5 by omega] at this
  exact this.symm
/-- counts of birds -/
theorem br_ct {ns bd : Nat → Int32} {b : Int32} (hb : ¬ (0 : Int32) = b) {Hn : Nat} (hH : Hn ≤ 5) (h2 : ∀ h : Nat, h < Hn → ns (4 * h + 2) = bd h) (ho : ∀ h : Nat, Hn ≤ h → h < 5 → bd h = 0) : brdN ns b Hn = cntN bd b 5 := by
  have key : ∀ n : Nat, n ≤ Hn → brdN ns b n = cntN bd b n := by
    intro n
    induction n with
    | zero => intro _; rfl
    | succ n ih =>
      intro hn
      rw [brdN, cntN, ih (by omega), h2 n (by omega)]
      split
      · rfl
      · simp
  rw [key Hn (Nat.le_refl _)]
  have ext : ∀ m : Nat, Hn + m ≤ 5 → cntN bd b (Hn + m) = cntN bd b Hn := by
    intro m
    induction m with
    | zero => intro _; rfl
    | succ m ih =>
      intro hm
      rw [show Hn + (m + 1) = (Hn + m) + 1 by omega, cntN, if_neg (fun q => hb (by rw [← q]; exact (ho _ (by omega) (by omega)).symm))]
      exact ih (by omega)
  have := ext (5 - Hn) (by omega)
  rw [show Hn + (5 - Hn) = 5 by omega] at this
  exact this.symm
theorem bk_sm {rw br : Nat → Int32} : ∀ {K : Nat}, (∀ k : Nat, k < K → rw (3 * k + 2) = br k) → brkN rw K = sumN br K
  | 0, _ => rfl
  | K + 1, h => by rw [brkN, sumN, bk_sm (fun a ha => h a (by omega)), h K (by omega)]
/-- what is seen -/
theorem wy_ch {rw si kd sk sh st : Nat → Int32} {k a b : Nat} (hkd : kd k = nI a) (ha : a < 5) (hb : b < 10) (hr : rw (3 * k) = kd k) : ∀ {n : Nat}, (∀ i : Nat, i < n → si (3 * i) = sk i ∧ si (3 * i + 1) = sh i ∧ si (3 * i + 2) = st i) → (∀ i : Nat, i < n → ∃ c : Nat, c < 10 ∧ sh i = nI c) → n ≤ 8 → stOk st → wayN rw si k (nI b) n = chN kd sk sh st k (nI b) n
  | 0, _, _, _, _ => rfl
  | n + 1, h, hv, h8, hst => by
    rw [wayN, chN, wy_ch hkd ha hb hr (fun i hi => h i (by omega)) (fun i hi => hv i (by omega)) (by omega) hst]
    obtain ⟨e1, e2, e3⟩ := h n (by omega)
    obtain ⟨c, hc, ec⟩ := hv n (by omega)
    rw [e1, e2, e3, hr, hkd, ec, yt a ha b hb c hc]
    by_cases q : sk n = nI k
    · rw [if_pos q, if_pos q]
      rcases hst n (by omega) with z | z
      · rw [if_neg (by rw [z]; decide), if_pos z]
      · rw [if_pos z, if_neg (by rw [z]; decide)]
    · rw [if_neg q, if_neg q]
      simp
theorem fa_pf {w v : Nat → Int64} : ∀ {n : Nat}, (∀ i : Nat, i < n → w i = v i) → faiN w n = pfN v n
  | 0, _ => rfl
  | n + 1, h => by
    rw [faiN, pfN, fa_pf (fun i hi => h i (by omega)), h n (by omega)]
    split
    · simp
    · rfl
theorem lk_M {w v : Nat → Int64} : ∀ {n : Nat}, (∀ i : Nat, i < n → w i = v i) → likM w n = likM v n
  | 0, _ => rfl
  | n + 1, h => by rw [likM, likM, lk_M (fun i hi => h i (by omega)), h n (by omega)]
theorem lk_N {w v : Nat → Int64} : ∀ {n : Nat}, (∀ i : Nat, i < n → w i = v i) → likN w n = likN v n
  | 0, _ => rfl
  | n + 1, h => by rw [likN, likN, lk_N (fun i hi => h i (by omega)), lk_M (fun i hi => h i (by omega)), h n (by omega)]
section REL
variable {K Hn : Nat} {kd fa hd lt bd eg br sk sh st : Nat → Int32} {Sn : Nat} {yr : Int32} {rw ns si : Nat → Int32}
theorem e_tell (ht : Rt K Hn kd fa hd) (h : Rb K Hn kd fa hd lt bd eg br sk sh st Sn yr rw ns si) {k : Nat} (hk : k < K) (what : Int32) : tellC kd fa lt eg br sk sh st Sn k what = tellK rw ns si Hn Sn k what := by
  obtain ⟨hK, hH, -, hv, -⟩ := ht
  obtain ⟨r1, r2, r3, r4, r5, r6, r7, r8, r9, r10, -⟩ := h
  obtain ⟨e1, e2, e3⟩ := r1 k hk
  obtain ⟨⟨a, ha, ea⟩, b, hb, eb⟩ := hv k hk
  have hkm : ¬ nI k = -1 := nI_m1 (by omega)
  have s1 := so_h5 (ns := ns) (lt := lt) (k := nI k) hH hkm (fun x hx => (r2 x hx).2.1) (fun x h1 h2 => (r3 x h1 h2).1)
  have s2 := eo_ei (ns := ns) (lt := lt) (eg := eg) (k := nI k) hH hkm (fun x hx => (r2 x hx).2.1) (fun x hx => (r2 x hx).2.2.2) (fun x h1 h2 => (r3 x h1 h2).1)
  have s3 : ∀ i : Nat, i < 10 → (fun v => wayN rw si k (nI v) Sn) i = (fun v => chN kd sk sh st k (nI v) Sn) i := fun i hi => wy_ch ea ha hi e1 r5 r8 r10 r9
  unfold tellC tellK
  rw [e1, e2, e3, s1]
  rw [s1] at s2
  rw [s2, fa_pf s3, lk_N s3]
theorem e_keeper (ht : Rt K Hn kd fa hd) (h : Rb K Hn kd fa hd lt bd eg br sk sh st Sn yr rw ns si) (k what : Int32) : fKeeperC kd fa lt eg br sk sh st K Sn k what = fKeeperM rw ns si K Hn Sn k what := by
  unfold fKeeperC fKeeperM
  by_cases q : ¬ k < 0 ∧ k < nI K
  · rw [if_pos q, if_pos q]
    obtain ⟨j, hj, rfl⟩ := z_ix q (by have := ht.1; omega)
    rw [nI_clamp (by have := ht.1; omega)]
    exact e_tell ht h hj what
  · rw [if_neg q, if_neg q]
theorem e_as (ht : Rt K Hn kd fa hd) (h : Rb K Hn kd fa hd lt bd eg br sk sh st Sn yr rw ns si) (k kind : Int32) : fAsC kd K k kind = fAsM rw K k kind := by
  unfold fAsC fAsM
  by_cases q : ¬ k < 0 ∧ k < nI K
  · rw [if_pos q, if_pos q]
    obtain ⟨j, hj, rfl⟩ := z_ix q (by have := ht.1; omega)
    rw [nI_clamp (by have := ht.1; omega), (h.1 j hj).1]
    grind
  · rw [if_neg q, if_neg q]
theorem e_keeps (ht : Rt K Hn kd fa hd) (h : Rb K Hn kd fa hd lt bd eg br sk sh st Sn yr rw ns si) (k hard : Int32) : fKeepsC kd fa K k hard = fKeepsM rw K k hard := by
  unfold fKeepsC fKeepsM
  by_cases q : ¬ k < 0 ∧ k < nI K
  · rw [if_pos q, if_pos q]
    obtain ⟨j, hj, rfl⟩ := z_ix q (by have := ht.1; omega)
    rw [nI_clamp (by have := ht.1; omega), (h.1 j hj).1, (h.1 j hj).2.1, ykAt_in hj ht.1]
    by_cases q2 : 0 ≤ hard ∧ hard ≤ 9
    · rw [if_pos q2, if_pos q2]
      obtain ⟨c, hc, rfl⟩ := nI_of2 (n := 9) (M := 9) (by decide) (Int32.not_lt.mpr q2.1) q2.2
      obtain ⟨⟨a, ha, ea⟩, b, hb, eb⟩ := ht.2.2.2.1 j hj
      rw [ea, eb, yt a ha b hb c (by omega)]
    · rw [if_neg q2, if_neg q2]
  · rw [if_neg q, if_neg q]
theorem e_tIn (ht : Rt K Hn kd fa hd) (h : Rb K Hn kd fa hd lt bd eg br sk sh st Sn yr rw ns si) {x : Nat} (hx : x < Hn) : ykAt K kd fa (lt x) (hd x) = tIn rw ns x := by
  obtain ⟨hK, hH, -, hv, hw⟩ := ht
  obtain ⟨r1, r2, r3, r4, r5, r6, -⟩ := h
  obtain ⟨f1, f2, f3, f4⟩ := r2 x hx
  rcases r6 x (by omega) with q | ⟨k, hk, ek, eb⟩
  · rw [q.1, ykAt_m1, tIn, if_pos (by rw [f2]; exact q.1)]
  · rw [ek, ykAt_in hk hK, tIn_k (k := k) (by rw [f2, ek]) (by omega), (r1 k hk).1, (r1 k hk).2.1, f1]
    obtain ⟨⟨a, ha, ea⟩, b, hb, eb⟩ := hv k hk
    obtain ⟨c, hc, ec⟩ := hw x hx
    rw [ea, eb, ec, yt a ha b hb c hc]
theorem e_tellH (ht : Rt K Hn kd fa hd) (h : Rb K Hn kd fa hd lt bd eg br sk sh st Sn yr rw ns si) {x : Nat} (hx : x < Hn) (what : Int32) : tellHC kd fa hd lt bd eg K x what = tellH rw ns x what := by
  have e4 := e_tIn ht h hx
  obtain ⟨f1, f2, f3, f4⟩ := h.2.1 x hx
  unfold tellHC tellH
  by_cases q : 0 ≤ what ∧ what ≤ 3
  · rw [if_pos q]
    obtain ⟨w, hw, rfl⟩ := nI_of2 (n := 3) (M := 3) (by decide) (Int32.not_lt.mpr q.1) q.2
    rw [nI_clamp (by omega)]
    rcases (show w = 0 ∨ w = 1 ∨ w = 2 ∨ w = 3 by omega) with rfl | rfl | rfl | rfl
    · rw [if_pos (by decide)]; exact f1.symm
    · rw [if_neg (by decide), if_pos (by decide)]; exact f2.symm
    · rw [if_neg (by decide), if_neg (by decide), if_pos (by decide)]; exact f3.symm
    · rw [if_neg (by decide), if_neg (by decide), if_neg (by decide), if_pos (by decide)]; exact f4.symm
  · rw [if_neg q]
    have n0 : ∀ w : Int32, (0 ≤ w ∧ w ≤ 3) → ¬ what = w := fun w hw e => q (by rw [e]; exact hw)
    rw [if_neg (n0 0 (by decide)), if_neg (n0 1 (by decide)), if_neg (n0 2 (by decide)), if_neg (n0 3 (by decide)), e4]
theorem e_hole (ht : Rt K Hn kd fa hd) (h : Rb K Hn kd fa hd lt bd eg br sk sh st Sn yr rw ns si) (x what : Int32) : fHoleC kd fa hd lt bd eg K Hn x what = fHoleM rw ns Hn x what := by
  unfold fHoleC fHoleM
  by_cases q : ¬ x < 0 ∧ x < nI Hn
  · rw [if_pos q, if_pos q]
    obtain ⟨j, hj, rfl⟩ := z_ix q (by have := ht.2.1; omega)
    rw [nI_clamp (by have := ht.2.1; omega)]
    exact e_tellH ht h hj what
  · rw [if_neg q, if_neg q]
theorem e_count (ht : Rt K Hn kd fa hd) (h : Rb K Hn kd fa hd lt bd eg br sk sh st Sn yr rw ns si) (P : Nat) (tr what : Int32) : cntC bd eg br P K Hn Sn yr tr what = cntM rw ns P K Hn Sn yr tr what := by
  obtain ⟨hK, hH, -, -, -⟩ := ht
  obtain ⟨r1, r2, r3, r4, -⟩ := h
  have s1 := br_ct (b := 1) (by decide) hH (fun x hx => (r2 x hx).2.2.1) (fun x a b => (r3 x a b).2.1)
  have s2 := br_ct (b := 2) (by decide) hH (fun x hx => (r2 x hx).2.2.1) (fun x a b => (r3 x a b).2.1)
  have s3 := ei_31 hH (fun x hx => (r2 x hx).2.2.2)
  have s4 := sn_ext (f := eg) (n := Hn) (5 - Hn) (fun x a b => (r3 x a (by omega)).2.2)
  have s5 := bk_sm (fun x hx => (r1 x hx).2.2)
  have s6 := sn_ext (f := br) (n := K) (5 - K) (fun x a b => r4 x a (by omega))
  rw [show Hn + (5 - Hn) = 5 by omega] at s4
  rw [show K + (5 - K) = 5 by omega] at s6
  unfold cntC cntM
  rw [s1, s2, s3, s4, s5, s6]
end REL
