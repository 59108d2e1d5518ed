/-! THE DIGEST: the same -/
theorem hN_c {f g : Nat → Int64} {h : Int64} : ∀ {n : Nat}, (∀ i : Nat, i < n → f i = g i) → hN f h n = hN g h n
  | 0, _ => rfl
  | n + 1, q => by rw [hN, hN, hN_c (fun i hi => q i (by omega)), q n (by omega)]
theorem dgK_c {f g : Nat → Int64 → Int64} {h : Int64} : ∀ {n : Nat}, (∀ i : Nat, i < n → ∀ x : Int64, f i x = g i x) → dgK f h n = dgK g h n
  | 0, _ => rfl
  | n + 1, q => by rw [dgK, dgK, dgK_c (fun i hi => q i (by omega)), q n (by omega)]
section REL5
variable {K Hn : Nat} {kd fa hd lt bd eg br sk sh st : Nat → Int32} {Sn : Nat} {yr : Int32} {rw ns si : Nat → Int32}
theorem e_dg1 (ht : Rt K Hn kd fa hd) (h : Rb K Hn kd fa hd lt bd eg br sk sh st Sn yr rw ns si) : dg1C kd fa lt eg br sk sh st K Sn K = dg1 rw ns si K Hn Sn := by
  unfold dg1C dg1
  apply dgK_c
  intro k hk x
  have hK := ht.1
  unfold dkC skM
  have e : ∀ v : Int32, 0 ≤ v ∧ v ≤ 9 → fKeepsC kd fa K (nI k) v = tb (rw (3 * k)) (rw (3 * k + 1)) v := by
    intro v hv
    rw [e_keeps ht h, fKeepsM, if_pos (z_ixn hk (by omega)), if_pos hv, nI_clamp (by omega)]
  rw [e 0 (by decide), e 5 (by decide), e 9 (by decide)]
  rw [hN_c (g := fun w => (tellK rw ns si Hn Sn k (nI w)).toInt64) (fun i hi => by rw [e_keeper ht h, fKeeperM, if_pos (z_ixn hk (by omega)), nI_clamp (by omega)])]
theorem e_dg2 (ht : Rt K Hn kd fa hd) (h : Rb K Hn kd fa hd lt bd eg br sk sh st Sn yr rw ns si) : dg2C kd fa hd lt bd eg br sk sh st K Hn Sn Hn = dg2 rw ns si K Hn Sn Hn := by
  unfold dg2C dg2
  rw [e_dg1 ht h]
  apply dgK_c
  intro k hk x
  have hH := ht.2.1
  apply hN_c
  intro i hi
  rw [e_hole ht h, fHoleM, if_pos (z_ixn hk (by omega)), nI_clamp (by omega)]
theorem e_dm (ht : Rt K Hn kd fa hd) (h : Rb K Hn kd fa hd lt bd eg br sk sh st Sn yr rw ns si) (bes : Nat → Int32) {x : Int64} {ro bo : Nat → Int32} : ∀ {n : Nat}, n ≤ 5 → (dmN K rw ns Hn (x, ro, bo) n).1 = hN (fun j => ((solC K Hn kd fa hd lt bd bes).2 j).toInt64) x n
  | 0, _ => rfl
  | n + 1, hn => by
    rw [dmN, hN, e_dm ht h bes (by omega)]
    simp only
    congr 2
    generalize (dmN K rw ns Hn (x, ro, bo) n).2.1 = r1
    generalize (dmN K rw ns Hn (x, ro, bo) n).2.2 = r2
    obtain ⟨a1, a2, a3⟩ := e_sol ht h bes r1 r2
    show matA (mAll K rw ns Hn r1 r2) Hn (nI (10 + n)) = _
    rw [matA, if_neg (nI_ne0 (by omega) (by omega)), nI_clamp (by omega), show 10 + n - 10 = n by omega]
    by_cases q : n < Hn
    · rw [if_pos q]; exact (a2 n q).symm
    · rw [if_neg q]; exact (a3 n (by omega)).symm
theorem e_dg3 (ht : Rt K Hn kd fa hd) (h : Rb K Hn kd fa hd lt bd eg br sk sh st Sn yr rw ns si) (bes ro bo : Nat → Int32) (hK0 : 0 < K) (x : Int64) : (dg3 rw ns K Hn ro bo x).1 = dwC kd fa hd lt bd bes K Hn x := by
  have hH0 : ¬ Hn = 0 := fun q => by have := ht.2.2.1.mpr q; omega
  unfold dg3 dwC
  rw [if_neg hH0, e_dm ht h bes (Nat.le_refl _)]
  have o : ∀ v : Int32, 0 ≤ v ∧ v ≤ 1 → fOddsC kd fa hd lt bd K Hn 2 v = oddM rw ns 2 Hn v := by
    intro v hv
    rw [e_odds ht h, fOddsM, if_pos ⟨by decide, hv⟩, if_neg hH0]
    rfl
  rw [o 0 (by decide), o 1 (by decide)]
  obtain ⟨a1, -, -⟩ := e_sol ht h bes ro bo
  have : (fMatO K rw ns Hn ro bo 0).1 = (solC K Hn kd fa hd lt bd bes).1 := by
    show matA (mAll K rw ns Hn ro bo) Hn 0 = _
    rw [matA, if_pos rfl, a1]
  rw [this]
theorem e_dig (ht : Rt K Hn kd fa hd) (h : Rb K Hn kd fa hd lt bd eg br sk sh st Sn yr rw ns si) (pg bes ro bo : Nat → Int32) (P : Nat) (tr : Int32) (hK0 : 0 < K) : (fDigM pg rw ns si P K Hn Sn yr tr ro bo).1 = dgEnd pg bd eg br P K Hn Sn yr tr (dwC kd fa hd lt bd bes K Hn (dg2C kd fa hd lt bd eg br sk sh st K Hn Sn Hn)) := by
  unfold fDigM dgEnd
  simp only
  rw [e_dg2 ht h, e_dg3 ht h bes ro bo hK0]
  apply hN_c
  intro i hi
  rw [e_count ht h]
theorem e_dig0 (ht : Rt K Hn kd fa hd) (h : Rb K Hn kd fa hd lt bd eg br sk sh st Sn yr rw ns si) (pg ro bo : Nat → Int32) (P : Nat) (tr : Int32) (hK0 : ¬ 0 < K) : (fDigM pg rw ns si P K Hn Sn yr tr ro bo).1 = dgEnd pg bd eg br P K Hn Sn yr tr (dg2C kd fa hd lt bd eg br sk sh st K Hn Sn Hn) := by
  have hH0 : Hn = 0 := ht.2.2.1.mp (by omega)
  unfold fDigM dgEnd
  simp only
  rw [e_dg2 ht h, dg3, if_pos hH0]
  apply hN_c
  intro i hi
  rw [e_count ht h]
end REL5
