/-! CENTURIES and ODDS -/
theorem mask31 (y : Int64) : ∃ n, n < 2 ^ 31 ∧ y &&& 2147483647 = lN n := by
  refine ⟨(y &&& 2147483647).toBitVec.toNat, ?_, ?_⟩
  · rw [Int64.toBitVec_and, BitVec.toNat_and]
    exact Nat.lt_of_le_of_lt Nat.and_le_right (by decide)
  · apply Int64.toBitVec_inj.mp
    show _ = (Int64.ofNat _).toBitVec
    rw [Int64.toBitVec_ofNat']
    simp
theorem dr_n (s : Int32) : ∃ n, n < 2 ^ 31 ∧ drL s.toInt64 = lN n ∧ drM s = nI n := by
  obtain ⟨n, hn, e⟩ := mask31 (1103515245 * s.toInt64 + 12345)
  exact ⟨n, hn, e, by unfold drM; rw [e, lN_i]⟩
theorem drw_n {x : Int64} {n : Nat} (hn : n < 2 ^ 31) (h : drL x = lN n) : drw x = lN (n / 65536 % 10) := by
  unfold drw
  rw [h, show (65536 : Int64) = lN 65536 from rfl, pk_lDiv (by omega) (by omega) (by omega), show (10 : Int64) = lN 10 from rfl, pk_lRem (by omega) (by omega) (by omega)]
theorem cDr_n {x : Int32} {n : Nat} (hn : n < 2 ^ 31) (h : drM x = nI n) : cDr x = nI (n / 65536 % 10) := by
  unfold cDr
  rw [h, show (65536 : Int32) = nI 65536 from rfl, pk_div (by omega) (by omega) (by omega), show (10 : Int32) = nI 10 from rfl, pk_rem (by omega) (by omega) (by omega)]
theorem tIn_c {rw ns ns' : Nat → Int32} {h : Nat} (h1 : ns' (4 * h + 1) = ns (4 * h + 1)) (h0 : ns' (4 * h) = ns (4 * h)) : tIn rw ns' h = tIn rw ns h := by
  unfold tIn
  rw [h1, h0]
def Rc (Hn : Nat) (ns : Nat → Int32) (q : Int64 × Int32 × (Nat → Int32)) (p : Int32 × Int32 × (Nat → Int32)) : Prop :=
  q.1 = p.1.toInt64 ∧ q.2.1 = p.2.1 ∧ (∀ h : Nat, h < Hn → p.2.2 (4 * h) = ns (4 * h) ∧ p.2.2 (4 * h + 1) = ns (4 * h + 1) ∧ p.2.2 (4 * h + 3) = q.2.2 h) ∧ ∀ h : Nat, Hn ≤ h → h < 5 → q.2.2 h = 0
section REL3
variable {K Hn : Nat} {kd fa hd lt bd eg br sk sh st : Nat → Int32} {Sn : Nat} {yr : Int32} {rw ns si : Nat → Int32}
theorem Rc_st (ht : Rt K Hn kd fa hd) (h : Rb K Hn kd fa hd lt bd eg br sk sh st Sn yr rw ns si) {q : Int64 × Int32 × (Nat → Int32)} {p : Int32 × Int32 × (Nat → Int32)} (r : Rc Hn ns q p) {x : Nat} (hx : x < Hn) : Rc Hn ns (if bd x = 1 then pySt K kd fa hd (lt x) x q else q) (cSt rw x p) := by
  have et := e_tIn ht h hx
  obtain ⟨hK, hH, -, -, -⟩ := ht
  obtain ⟨q1, q2, q3⟩ := q
  obtain ⟨p1, p2, p3⟩ := p
  obtain ⟨c1, c2, c3, c4⟩ := r
  simp only at c1 c2 c3 c4
  subst c1 c2
  obtain ⟨f1, f2, f3, f4⟩ := h.2.1 x hx
  obtain ⟨g0, g1, g3⟩ := c3 x hx
  unfold cSt
  simp only
  have g : p3 (4 * x + 1) = lt x := g1.trans f2
  rcases h.2.2.2.2.2.1 x (by omega) with z | ⟨k, hk, z1, z2⟩
  · rw [if_pos (g.trans z.1), if_neg (by rcases z.2 with w | w <;> rw [w] <;> decide)]
    exact ⟨rfl, rfl, c3, c4⟩
  · rw [if_pos z2, if_neg (show ¬ p3 (4 * x + 1) = -1 by rw [g, z1]; exact nI_m1 (by omega)), tIn_c g1 g0, ← et]
    obtain ⟨n, hn, d1, d2⟩ := dr_n p1
    obtain ⟨t, h10, e10⟩ : ∃ t : Nat, t ≤ 10 ∧ ykAt K kd fa (lt x) (hd x) = nI t := by
      obtain ⟨t, h10, e, -⟩ := tIn_r (rw := rw) (ns := ns) (h := x) (by rw [f2, z1]; exact nI_m1 (by omega))
      exact ⟨t, h10, by rw [et, e]⟩
    unfold pySt
    simp only
    have he : (ykAt K kd fa (lt x) (hd x)).toInt64 ≤ drw p1.toInt64 ↔ ykAt K kd fa (lt x) (hd x) ≤ cDr p1 := by
      rw [drw_n hn d1, cDr_n hn d2, e10, nI_l (by omega), lN_le (by omega) (by omega), nI_leI (by omega) (by omega)]
    have up : ∀ v : Int32, (∀ y : Nat, y < Hn → (upd p3 (4 * x + 3) v) (4 * y) = ns (4 * y) ∧ (upd p3 (4 * x + 3) v) (4 * y + 1) = ns (4 * y + 1) ∧ (upd p3 (4 * x + 3) v) (4 * y + 3) = upd q3 x v y) ∧ ∀ y : Nat, Hn ≤ y → y < 5 → upd q3 x v y = 0 := by
      intro v
      refine ⟨?_, ?_⟩
      · intro y hy
        obtain ⟨a0, a1, a3⟩ := c3 y hy
        rw [upd_ne (by omega), upd_ne (by omega)]
        refine ⟨a0, a1, ?_⟩
        by_cases w : y = x
        · subst w; rw [pk_us, pk_us]
        · rw [upd_ne (by omega), upd_ne w]; exact a3
      · intro y h1 h2
        rw [upd_ne (by omega)]
        exact c4 y h1 h2
    have uu : ∀ a b : Int32, upd (upd p3 (4 * x + 3) a) (4 * x + 3) b = upd p3 (4 * x + 3) b := by
      intro a b
      funext y
      by_cases w : y = 4 * x + 3
      · subst w; rw [pk_us, pk_us]
      · rw [upd_ne w, upd_ne w, upd_ne w]
    by_cases w : ykAt K kd fa (lt x) (hd x) ≤ cDr p1
    · rw [if_pos w, if_pos (he.mpr w), uu, pk_us]
      refine ⟨by show drL _ = (drM p1).toInt64; rw [d1, d2, nI_l hn], rfl, ?_⟩
      have e0 : p3 (4 * x + 3) * 0 + 0 = 0 := by simp
      rw [e0]
      exact up 0
    · rw [if_neg w, if_neg (fun u => w (he.mp u)), uu, pk_us]
      refine ⟨by show drL _ = (drM p1).toInt64; rw [d1, d2, nI_l hn], by simp, ?_⟩
      have e1 : eggY K kd (lt x) = if rw (3 * (p3 (4 * x + 1)).toNatClampNeg) = 2 then 0 else 1 := by
        unfold eggY
        rw [g, z1, nI_clamp (by omega), (h.1 k hk).1]
        by_cases w : kd k = 2
        · rw [if_pos ⟨z_ixn hk (by omega), w⟩, if_pos w]
        · rw [if_neg (fun u => w u.2), if_neg w]
      have e0 : p3 (4 * x + 3) * 1 = q3 x := by rw [g3]; simp
      rw [← e1, e0]
      exact up _
theorem Rc_H (ht : Rt K Hn kd fa hd) (h : Rb K Hn kd fa hd lt bd eg br sk sh st Sn yr rw ns si) {q : Int64 × Int32 × (Nat → Int32)} {p : Int32 × Int32 × (Nat → Int32)} (r : Rc Hn ns q p) : ∀ n : Nat, n ≤ Hn → Rc Hn ns (pH K kd fa hd lt bd q n) (cH rw p n)
  | 0, _ => r
  | n + 1, hn => by
    rw [pH, cH]
    exact Rc_st ht h (Rc_H ht h r n (by omega)) (by omega)
theorem Rc_Y (ht : Rt K Hn kd fa hd) (h : Rb K Hn kd fa hd lt bd eg br sk sh st Sn yr rw ns si) {q : Int64 × Int32 × (Nat → Int32)} {p : Int32 × Int32 × (Nat → Int32)} (r : Rc Hn ns q p) : ∀ n : Nat, Rc Hn ns (pY K Hn kd fa hd lt bd q n) (cY rw Hn p n)
  | 0 => r
  | n + 1 => by
    rw [pY, cY]
    exact Rc_H ht h (Rc_Y ht h r n) Hn (Nat.le_refl _)
theorem e_cen (ht : Rt K Hn kd fa hd) (h : Rb K Hn kd fa hd lt bd eg br sk sh st Sn yr rw ns si) (cbk : Int32) (csd : Int64) (ceg sv : Nat → Int32) (sd many seed what : Int32) : (fCenC kd fa hd lt bd eg ceg K Hn cbk csd many seed what).1 = (fCenM rw ns sv Hn sd many seed what).1 := by
  have hY := fun n => Rc_Y ht h (q := (seed.toInt64, 0, eg)) (p := (seed, 0, ns)) ⟨rfl, rfl, fun y hy => ⟨rfl, rfl, (h.2.1 y hy).2.2.2⟩, fun y h1 h2 => (h.2.2.1 y h1 h2).2.2⟩ n
  obtain ⟨hK, hH, h0, -, -⟩ := ht
  unfold fCenC fCenM
  by_cases q : (1 ≤ many ∧ many ≤ 60) ∧ ¬ seed < 0 ∧ (0 ≤ what ∧ what ≤ 2)
  · rw [if_pos q, if_pos q]
    by_cases q2 : Hn = 0
    · rw [if_pos q2, if_neg (by have := h0.mpr q2; omega)]
    · rw [if_neg q2, if_pos (by have := fun w => q2 (h0.mp w); omega)]
      show cenC _ _ _ _ _ _ _ _ _ _ _ = cenM _ _ _ _ _ _
      unfold cenC cenM
      obtain ⟨c1, c2, c3, c4⟩ := hY many.toNatClampNeg
      have s1 := ei_31 hH (fun x hx => (c3 x hx).2.2)
      have s2 := sn_ext (n := Hn) (5 - Hn) (fun x a b => c4 x a (by omega))
      rw [show Hn + (5 - Hn) = 5 by omega] at s2
      rw [c1, c2, s1, s2]
      simp
  · rw [if_neg q, if_neg q]
theorem gd_n : ∀ (k n a b : Nat), b < 2 ^ k → 2 * k + 1 ≤ n → a < 2 ^ 62 → b < 2 ^ 62 → gdN n (lN a) (lN b) = lN (Nat.gcd a b)
  | 0, n, a, b, hb, _, _, _ => by
    obtain rfl : b = 0 := by omega
    rw [show lN 0 = 0 from rfl, gdN_z, Nat.gcd_zero_right]
  | k + 1, n, a, b, hb, hn, ha, hb2 => by
    by_cases q : b = 0
    · subst q
      rw [show lN 0 = 0 from rfl, gdN_z, Nat.gcd_zero_right]
    · obtain ⟨m, rfl⟩ : ∃ m, n = m + 2 := ⟨n - 2, by omega⟩
      have hr : a % b < b := Nat.mod_lt _ (by omega)
      have g1 : Nat.gcd a b = Nat.gcd b (a % b) := by rw [Nat.gcd_comm, Nat.gcd_rec, Nat.gcd_comm]
      rw [gdN, if_neg (zl0 (by omega) hb2), pk_lRem (by omega) (by omega) (by omega), g1]
      generalize a % b = r at hr
      by_cases q2 : r = 0
      · subst q2
        rw [show lN 0 = 0 from rfl, gdN_z, Nat.gcd_zero_right]
      · have g2 : Nat.gcd b r = Nat.gcd r (b % r) := by rw [Nat.gcd_comm, Nat.gcd_rec, Nat.gcd_comm]
        have hs : b % r < r := Nat.mod_lt _ (by omega)
        rw [gdN, if_neg (zl0 (by omega) (by omega)), pk_lRem (by omega) (by omega) (by omega), g2]
        refine gd_n k m r (b % r) ?_ (by omega) (by omega) (by omega)
        have h2 : r + b % r ≤ b := by
          have e := Nat.div_add_mod b r
          have d : 1 ≤ b / r := Nat.div_pos (by omega) (by omega)
          have := Nat.mul_le_mul_left r d
          omega
        have : 2 ^ (k + 1) = 2 * 2 ^ k := by rw [Nat.pow_succ]; omega
        omega
theorem ab_n (ht : Rt K Hn kd fa hd) (h : Rb K Hn kd fa hd lt bd eg br sk sh st Sn yr rw ns si) : ∀ n : Nat, n ≤ Hn → abN K kd fa hd lt bd n = lN (oUp rw ns 1 n) ∧ blN bd n = lN (oLo ns 1 n) ∧ oUp rw ns 2 n = oUp rw ns 1 n * oUp rw ns 1 n ∧ oLo ns 2 n = oLo ns 1 n * oLo ns 1 n
  | 0, _ => ⟨rfl, rfl, rfl, rfl⟩
  | n + 1, hn => by
    obtain ⟨i1, i2, i3, i4⟩ := ab_n ht h n (by omega)
    have et := e_tIn ht h (x := n) (by omega)
    obtain ⟨hK, hH, -, -, -⟩ := ht
    obtain ⟨f1, f2, f3, f4⟩ := h.2.1 n (by omega)
    rw [abN, blN, oUp, oUp, oLo, oLo, f2]
    rcases h.2.2.2.2.2.1 n (by omega) with z | ⟨k, hk, z1, z2⟩
    · rw [if_pos z.1, if_pos z.1, if_pos z.1, if_pos z.1, if_neg (by rcases z.2 with w | w <;> rw [w] <;> decide), if_neg (by rcases z.2 with w | w <;> rw [w] <;> decide)]
      exact ⟨i1, i2, i3, i4⟩
    · have hm : ¬ lt n = -1 := by rw [z1]; exact nI_m1 (by omega)
      rw [if_pos z2, if_pos z2, if_neg hm, if_neg hm, if_neg hm, if_neg hm]
      obtain ⟨t, h10, e, e2⟩ := tIn_r (rw := rw) (ns := ns) (h := n) (by rw [f2]; exact hm)
      rw [et, e, nI_clamp (by omega), nI_l (by omega), i1, i2, i3, i4, lN_mul, show (10 : Int64) = lN 10 from rfl, lN_mul]
      refine ⟨by rw [Nat.pow_one], rfl, ?_, ?_⟩
      · rw [Nat.pow_one, Nat.pow_two]; exact Nat.mul_mul_mul_comm _ _ _ _
      · rw [Nat.pow_one, Nat.pow_two]; exact Nat.mul_mul_mul_comm _ _ _ _
theorem gcd_sq (a b : Nat) : Nat.gcd (a * a) (b * b) = Nat.gcd a b * Nat.gcd a b := by
  have := Nat.pow_gcd_pow (n := a) (m := b) (k := 2)
  rw [Nat.pow_two, Nat.pow_two, Nat.pow_two] at this
  exact this
theorem p5 {h : Nat} (hh : h ≤ 5) : 10 ^ h ≤ 100000 := Nat.le_trans (Nat.pow_le_pow_right (by omega) hh) (by decide)
theorem oU1 {rw ns : Nat → Int32} : ∀ h : Nat, oUp rw ns 1 h ≤ 10 ^ h
  | 0 => Nat.le_refl 1
  | h + 1 => by
    have ih := oU1 (rw := rw) (ns := ns) h
    rw [oUp, show 10 ^ (h + 1) = 10 ^ h * 10 from rfl]
    split
    · omega
    · rename_i hn
      obtain ⟨t, ht, -, e⟩ := tIn_r (rw := rw) hn
      rw [e, Nat.pow_one]
      exact Nat.mul_le_mul ih ht
theorem oL1 {ns : Nat → Int32} : ∀ h : Nat, oLo ns 1 h ≤ 10 ^ h
  | 0 => Nat.le_refl 1
  | h + 1 => by
    have ih := oL1 (ns := ns) h
    rw [oLo, Nat.pow_succ]
    split
    · omega
    · exact Nat.mul_le_mul ih (by decide)
theorem e_odds (ht : Rt K Hn kd fa hd) (h : Rb K Hn kd fa hd lt bd eg br sk sh st Sn yr rw ns si) (years what : Int32) : fOddsC kd fa hd lt bd K Hn years what = fOddsM rw ns Hn years what := by
  obtain ⟨a1, a2, a3, a4⟩ := ab_n ht h Hn (Nat.le_refl _)
  obtain ⟨hK, hH, h0, -, -⟩ := ht
  unfold fOddsC fOddsM
  by_cases q : (1 ≤ years ∧ years ≤ 2) ∧ (0 ≤ what ∧ what ≤ 1)
  · rw [if_pos q, if_pos q]
    by_cases q2 : Hn = 0
    · rw [if_pos q2, if_neg (by have := h0.mpr q2; omega)]
    · rw [if_neg q2, if_pos (by have := fun w => q2 (h0.mp w); omega)]
      have u1 := oU1 (rw := rw) (ns := ns) Hn
      have u2 := oL1 (ns := ns) Hn
      have u3 := p5 hH
      have lp := oLo_pos (ns := ns) (m := 1) Hn
      unfold oddC oddM
      rw [a1, a2]
      generalize hA : oUp rw ns 1 Hn = A at *
      generalize hB : oLo ns 1 Hn = B at *
      have hg : gdN 100 (lN A) (lN B) = lN (Nat.gcd B A) := by
        rw [Nat.gcd_comm]
        exact gd_n 17 100 A B (by omega) (by omega) (by omega) (by omega)
      have gp : 0 < Nat.gcd B A := Nat.gcd_pos_of_pos_left _ lp
      have gA : Nat.gcd B A ∣ A := Nat.gcd_dvd_right B A
      have gB : Nat.gcd B A ∣ B := Nat.gcd_dvd_left B A
      have gl : Nat.gcd B A ≤ B := Nat.le_of_dvd lp gB
      have low : ∀ x : Nat, x ≤ 100000 → lowC (lN x) (lN (Nat.gcd B A)) = lN (x / Nat.gcd B A) := by
        intro x hx
        unfold lowC
        rw [if_neg (by rw [show (0 : Int64) = lN 0 from rfl, pk_lLE (by omega) (by omega)]; omega), pk_lDiv (by omega) gp (by omega)]
      have dsq : ∀ x : Nat, Nat.gcd B A ∣ x → x / Nat.gcd B A * (x / Nat.gcd B A) = x * x / (Nat.gcd B A * Nat.gcd B A) := by
        intro x hx
        rw [Nat.div_mul_div_comm hx hx]
      rw [hg]
      obtain ⟨y, hy, ey⟩ := nI_of2 (n := 2) (M := 2) (by decide) (fun w => absurd (Int32.lt_of_lt_of_le w (show (0:Int32) ≤ 1 by decide)) (Int32.not_lt.mpr q.1.1)) q.1.2
      have hy1 : 1 ≤ y := by
        have := q.1.1
        rw [ey] at this
        exact (nI_leI (a := 1) (by omega) (by omega)).mp this
      rcases (show y = 1 ∨ y = 2 by omega) with rfl | rfl
      · rw [ey, nI_clamp (by omega), hA, hB]
        unfold sqC
        rw [if_pos (by decide)]
        split
        · exact low A (by omega)
        · exact low B (by omega)
      · rw [ey, nI_clamp (by omega), a3, a4, gcd_sq]
        unfold sqC
        rw [if_neg (by decide)]
        split
        · rw [low A (by omega), lN_mul, dsq A gA]
        · rw [low B (by omega), lN_mul, dsq B gB]
  · rw [if_neg q, if_neg q]
end REL3
