/-! MATCH: the class's search is the abstract one -/
def fn (t : Nat → Nat) : Nat → Int32 := fun h => nI (t h) - 1
def rlC (bes : Nat → Int32) (q : Int32 × (Nat → Int32)) : Bst → Prop
  | none => q = (-1, bes)
  | some p => q = (nI p.1, fn p.2) ∧ p.1 ≤ 50
theorem m1_lt {x : Nat} (h : x < 2 ^ 31) : (-1 : Int32) < nI x := Int32.lt_of_lt_of_le (show (-1 : Int32) < 0 by decide) (nI_pos' h)
theorem rl_U {bes : Nat → Int32} {q : Int32 × (Nat → Int32)} {o : Bst} {v : Nat} {t : Nat → Nat} (hv : v ≤ 50) (r : rlC bes q o) : rlC bes (if q.1 < nI v then (nI v, fn t) else q) (bU v t o) := by
  cases o with
  | none =>
    have r : q = (-1, bes) := r
    subst r
    rw [if_pos (m1_lt (by omega))]
    exact ⟨rfl, hv⟩
  | some p =>
    obtain ⟨r, hp⟩ : q = (nI p.1, fn p.2) ∧ p.1 ≤ 50 := r
    subst r
    unfold bU
    simp only
    by_cases z : p.1 < v
    · rw [if_pos z, if_pos ((nI_ltI (by omega) (by omega)).mpr z)]
      exact ⟨rfl, hv⟩
    · rw [if_neg z, if_neg (fun u => z ((nI_ltI (by omega) (by omega)).mp u))]
      exact ⟨rfl, hp⟩
theorem fn_up {t : Nat → Nat} {h k : Nat} : upd (fn t) h (nI k) = fn (un t h (k + 1)) := by
  funext j
  unfold fn
  by_cases q : j = h
  · subst q
    rw [pk_us, un_s]
    exact (nI_pred k).symm
  · rw [upd_ne q, un_n q]
section MATC
variable {vc : Nat → Bool} {c : Nat → Nat} {K Hn : Nat} {w : Nat → Nat → Nat} {M : Nat → Nat → Int32} {lim : Nat → Int32} {L : Nat → Nat}
theorem sF_end (hM : ∀ h k : Nat, k < 5 → Hn ≤ h → ¬ 0 < M h k) (hl : ∀ h : Nat, Hn ≤ h → h ≤ 5 → lim h = 0) : ∀ {m h : Nat} {room tried : Nat → Int32} {sum : Int32} {q : Int32 × (Nat → Int32)}, h + m = 5 → Hn ≤ h → sF M lim m h room tried sum q = if q.1 < sum then (sum, tried) else q
  | 0, h, room, tried, sum, q, e, hh => by
    rw [sF, hl h hh (by omega), Int32.add_zero]
  | m + 1, h, room, tried, sum, q, e, hh => by
    rw [sF, hl h hh (by omega), Int32.add_zero]
    by_cases z : q.1 < sum
    · rw [if_pos z, if_pos z]
      refine (kF_same (fun i hi => by exact if_neg (fun u => hM h i hi hh u.2))).trans ?_
      rw [sF_end hM hl (by omega) (by omega), if_pos z]
    · rw [if_neg z, if_neg z]
theorem sm_bd (hL : ∀ h : Nat, h < Hn → L h = L (h + 1) + (L h - L (h + 1)) ∧ ∀ k : Nat, vc h = true → k < K → w h k ≤ L h - L (h + 1)) {s : Nat → Nat} (hs : ∀ j : Nat, j < Hn → s j ≤ K) (ok : okA vc c K s Hn) : ∀ {n h : Nat}, h + n = Hn → smN w s Hn ≤ smN w s h + L h
  | 0, h, e => by
    obtain rfl : h = Hn := by omega
    omega
  | n + 1, h, e => by
    have ih := sm_bd hL hs ok (n := n) (h := h + 1) (by omega)
    obtain ⟨l1, l2⟩ := hL h (by omega)
    rw [smN] at ih
    by_cases q : s h = 0
    · rw [if_pos q] at ih
      omega
    · rw [if_neg q] at ih
      have := l2 (s h - 1) (ok.1 h (by omega) q) (by have := hs h (by omega); omega)
      omega
theorem sF_Nd (hK : K ≤ 5) (hH : Hn ≤ 5) (hw : ∀ h k : Nat, w h k ≤ 10) (hc : ∀ k : Nat, k < K → c k ≤ 2)
    (hM : ∀ h k : Nat, h < Hn → k < K → vc h = true → M h k = nI (w h k)) (hM0 : ∀ h k : Nat, k < 5 → ¬ (h < Hn ∧ k < K ∧ vc h = true) → ¬ 0 < M h k)
    (hl : ∀ h : Nat, h ≤ 5 → lim h = nI (L h)) (hl0 : ∀ h : Nat, Hn ≤ h → h ≤ 5 → lim h = 0) (hLm : ∀ h : Nat, L h ≤ 50)
    (hL : ∀ h : Nat, h < Hn → L h = L (h + 1) + (L h - L (h + 1)) ∧ ∀ k : Nat, vc h = true → k < K → w h k ≤ L h - L (h + 1)) {bes : Nat → Int32} :
    ∀ {n h m : Nat} {room : Nat → Int32} {t : Nat → Nat} {q : Int32 × (Nat → Int32)} {o : Bst}, h + n = Hn → h + m = 5 → okA vc c K t h → (∀ j : Nat, h ≤ j → t j = 0) → (∀ j : Nat, j < Hn → t j ≤ K) → (∀ k : Nat, k < K → room k = nI (2 - (c k + ctN t k h))) → rlC bes q o → rlC bes (sF M lim m h room (fn t) (nI (smN w t h)) q) (Nd vc c K Hn w n h t o)
  | 0, h, m, room, t, q, o, e1, e2, ok, t0, tK, hr, r => by
    obtain rfl : h = Hn := by omega
    rw [sF_end (Hn := h) (fun a b hb z => hM0 a b hb (by omega)) hl0 e2 (Nat.le_refl _), Nd, leaf, if_pos ok]
    exact rl_U (by have := sm_le hw (t := t) h; omega) r
  | n + 1, h, 0, room, t, q, o, e1, e2, ok, t0, tK, hr, r => absurd e2 (by omega)
  | n + 1, h, m + 1, room, t, q, o, e1, e2, ok, t0, tK, hr, r => by
    have hsm := sm_le hw (t := t) h
    have th : t h = 0 := t0 h (Nat.le_refl _)
    have hlm := hLm h
    rw [sF]
    by_cases z : q.1 < nI (smN w t h) + lim h
    · rw [if_pos z, Nd, show K + 1 = 1 + K by omega, kF_add]
      have k1 : kF (fun d o => Nd vc c K Hn w n (h + 1) (un t h d) o) o 1 = Nd vc c K Hn w n (h + 1) t o := by
        rw [kF, kF, un_i th]
      rw [k1]
      have s1 : smN w t (h + 1) = smN w t h := by rw [smN, if_pos th, Nat.add_zero]
      have c1 : ∀ k : Nat, ctN t k (h + 1) = ctN t k h := by intro k; rw [ctN, if_neg (by omega), Nat.add_zero]
      have ok1 : okA vc c K t (h + 1) := ⟨fun j hj hne => ok.1 j (by by_cases y : j = h; exact absurd (by rw [y]; exact th) hne; omega) hne, fun k hk => by rw [c1]; exact ok.2 k hk⟩
      have r1 := sF_Nd hK hH hw hc hM hM0 hl hl0 hLm hL (n := n) (h := h + 1) (m := m) (room := room) (by omega) (by omega) ok1 (fun j hj => t0 j (by omega)) tK (fun k hk => by rw [c1]; exact hr k hk) r
      rw [s1] at r1
      have cv : ∀ s : Nat → Nat, cmp K n (h + 1) t s → okA vc c K s Hn → cov (smN w s Hn) (Nd vc c K Hn w n (h + 1) t o) := fun s hs hk => Nd_ge (by omega) hs hk
      generalize sF M lim m (h + 1) room (fn t) (nI (smN w t h)) q = q0 at r1 ⊢
      generalize Nd vc c K Hn w n (h + 1) t o = o0 at r1 cv ⊢
      have key : ∀ j : Nat, j ≤ K → rlC bes (kF (fun k q => if 0 < room k ∧ 0 < M h k then sF M lim m (h + 1) (upd room k (room k - 1)) (upd (fn t) h (nI k)) (nI (smN w t h) + M h k) q else q) q0 j) (kF (fun i => (fun d o => Nd vc c K Hn w n (h + 1) (un t h d) o) (1 + i)) o0 j) ∧ ∀ s : Nat → Nat, cmp K n (h + 1) t s → okA vc c K s Hn → cov (smN w s Hn) (kF (fun i => (fun d o => Nd vc c K Hn w n (h + 1) (un t h d) o) (1 + i)) o0 j) := by
        intro j
        induction j with
        | zero => exact fun _ => ⟨r1, cv⟩
        | succ j ih =>
          intro hj
          obtain ⟨i1, i2⟩ := ih (by omega)
          rw [kF, kF]
          refine ⟨?_, fun s hs hk => Nd_mono (i2 s hs hk)⟩
          generalize kF (fun k q => if 0 < room k ∧ 0 < M h k then sF M lim m (h + 1) (upd room k (room k - 1)) (upd (fn t) h (nI k)) (nI (smN w t h) + M h k) q else q) q0 j = q1 at i1 ⊢
          generalize kF (fun i => (fun d o => Nd vc c K Hn w n (h + 1) (un t h d) o) (1 + i)) o0 j = o1 at i1 i2 ⊢
          simp only
          rw [show 1 + j = j + 1 by omega]
          have ctt : ∀ k : Nat, ctN (un t h (j + 1)) k h = ctN t k h := fun k => ct_c (fun y hy => un_n (by omega))
          have cth : ∀ k : Nat, ctN (un t h (j + 1)) k (h + 1) = ctN t k h + (if j = k then 1 else 0) := by
            intro k
            rw [ctN, ctt, un_s]
            by_cases y : j = k
            · rw [if_pos (by omega), if_pos y]
            · rw [if_neg (by omega), if_neg y]
          by_cases y : 0 < room j ∧ 0 < M h j
          · rw [if_pos y]
            have y2 : h < Hn ∧ j < K ∧ vc h = true := Decidable.byContradiction (fun u => hM0 h j (by omega) u y.2)
            rw [hM h j y2.1 y2.2.1 y2.2.2, nI_add, fn_up]
            have st : smN w (un t h (j + 1)) (h + 1) = smN w t h + w h j := by
              rw [smN, sm_c (t := t) (fun y hy => un_n (by omega)), un_s, if_neg (by omega), Nat.add_sub_cancel]
            rw [← st]
            have hrj := hr j (by omega)
            have hrp : 0 < 2 - (c j + ctN t j h) := by
              rcases Nat.eq_zero_or_pos (2 - (c j + ctN t j h)) with u | u
              · rw [hrj, u] at y
                exact absurd y.1 (by decide)
              · exact u
            refine sF_Nd hK hH hw hc hM hM0 hl hl0 hLm hL (n := n) (h := h + 1) (m := m) (by omega) (by omega) ⟨?_, ?_⟩ ?_ ?_ ?_ i1
            · intro a ha hne
              by_cases u : a = h
              · rw [u]; exact y2.2.2
              · rw [un_n u] at hne; exact ok.1 a (by omega) hne
            · intro k hk
              rw [cth]
              have := ok.2 k hk
              by_cases u : j = k
              · subst u; rw [if_pos rfl]; omega
              · rw [if_neg u]; omega
            · intro a ha
              rw [un_n (by omega)]
              exact t0 a (by omega)
            · intro a ha
              by_cases u : a = h
              · rw [u, un_s]; omega
              · rw [un_n u]; exact tK a ha
            · intro k hk
              rw [cth]
              by_cases u : k = j
              · subst u
                rw [pk_us, if_pos rfl, hrj]
                have : 2 - (c k + ctN t k h) = (2 - (c k + (ctN t k h + 1))) + 1 := by omega
                rw [this]
                exact nI_pred _
              · rw [upd_ne u, if_neg (fun v => u v.symm), Nat.add_zero]
                exact hr k hk
          · rw [if_neg y, Nd_le (by omega)]
            · exact i1
            · intro s hs hk
              have sh : s h = j + 1 := by rw [hs.1 h (by omega), un_s]
              have vh : vc h = true := hk.1 h (by omega) (by omega)
              have sc : ctN s j (h + 1) = ctN t j h + 1 := by
                rw [ctN, sh, if_pos rfl, ct_c (t := t) (fun y hy => by rw [hs.1 y (by omega), un_n (by omega)])]
              have s2 := hk.2 j (by omega)
              have s3 := ct_m (t := s) (k := j) (show h + 1 ≤ Hn by omega)
              have rp : 0 < room j := by
                rw [hr j (by omega)]
                exact Int32.lt_of_lt_of_le (show (0 : Int32) < 1 by decide) (nI_le (a := 1) (by omega) (by omega))
              have w0 : w h j = 0 := by
                have u : ¬ 0 < M h j := fun u => y ⟨rp, u⟩
                rw [hM h j (by omega) (by omega) vh] at u
                rcases Nat.eq_zero_or_pos (w h j) with v | v
                · exact v
                · exact absurd (nI_lt (a := 0) v (by have := hw h j; omega)) u
              have e3 : smN w (un s h 0) Hn = smN w s Hn := by
                have gen : ∀ a : Nat, smN w (un s h 0) a = smN w s a := by
                  intro a
                  induction a with
                  | zero => rfl
                  | succ a ih =>
                    rw [smN, smN, ih]
                    by_cases u : a = h
                    · rw [u, un_s, if_pos rfl, sh, if_neg (by omega), Nat.add_sub_cancel, w0]
                    · rw [un_n u]
                exact gen Hn
              have e4 : ∀ k a : Nat, ctN (un s h 0) k a ≤ ctN s k a := by
                intro k a
                induction a with
                | zero => exact Nat.le_refl _
                | succ a ih =>
                  rw [ctN, ctN]
                  by_cases u : a = h
                  · rw [u] at ih ⊢
                    rw [un_s, if_neg (by omega)]; omega
                  · rw [un_n u]; omega
              rw [← e3]
              refine i2 (un s h 0) ⟨?_, ?_, ?_⟩ ⟨?_, ?_⟩
              · intro a ha
                by_cases u : a = h
                · rw [u, un_s, th]
                · rw [un_n u, hs.1 a ha, un_n u]
              · intro a ha
                rw [un_n (by omega), hs.2.1 a ha, un_n (by omega)]
              · intro a h1 h2
                rw [un_n (by omega)]
                exact hs.2.2 a h1 h2
              · intro a ha hne
                by_cases u : a = h
                · rw [u]; exact vh
                · rw [un_n u] at hne; exact hk.1 a ha hne
              · intro k hk2
                have := e4 k Hn
                have := hk.2 k hk2
                omega
      have kK := (key K (Nat.le_refl _)).1
      have ext : ∀ i : Nat, K + i ≤ 5 → kF (fun k q => if 0 < room k ∧ 0 < M h k then sF M lim m (h + 1) (upd room k (room k - 1)) (upd (fn t) h (nI k)) (nI (smN w t h) + M h k) q else q) q0 (K + i) = kF (fun k q => if 0 < room k ∧ 0 < M h k then sF M lim m (h + 1) (upd room k (room k - 1)) (upd (fn t) h (nI k)) (nI (smN w t h) + M h k) q else q) q0 K := by
        intro i hi5
        rw [kF_add]
        exact kF_same (fun a ha => if_neg (fun u => hM0 h (K + a) (by omega) (by omega) u.2))
      have e5 := ext (5 - K) (by omega)
      rw [show K + (5 - K) = 5 by omega] at e5
      rw [e5]
      exact kK
    · rw [if_neg z]
      cases o with
      | none =>
        have r : q = (-1, bes) := r
        subst r
        rw [hl h (by omega), nI_add] at z
        exact absurd (m1_lt (by omega)) z
      | some p =>
        obtain ⟨r', hp⟩ : q = (nI p.1, fn p.2) ∧ p.1 ≤ 50 := r
        rw [Nd_le e1]
        · exact ⟨r', hp⟩
        · intro s hs hk
          subst r'
          rw [hl h (by omega), nI_add] at z
          have z2 : smN w t h + L h ≤ p.1 := Nat.not_lt.mp (fun u => z ((nI_ltI (by omega) (by omega)).mpr u))
          have sK : ∀ j : Nat, j < Hn → s j ≤ K := by
            intro j hj
            by_cases u : j < h
            · rw [hs.1 j u]; exact tK j hj
            · exact hs.2.2 j (by omega) (by omega)
          have b := sm_bd hL sK hk e1
          rw [sm_c hs.1] at b
          exact Nat.le_trans b z2
end MATC
