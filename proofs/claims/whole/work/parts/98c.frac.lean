/-! 98c: share, price -/
section C98c
variable {B : Int} {μ ν : sM}
theorem lrm_b {x y : Int64} (hx : 0 ≤ x.toInt) (hy : 0 < y.toInt) : (lrm x y).toInt = x.toInt % y.toInt := by
  have x1 := Int64.toInt_lt x
  have y1 := Int64.toInt_lt y
  have d1 : (x / y).toInt = x.toInt / y.toInt := by
    rw [Int64.toInt_div, Int.tdiv_eq_ediv_of_nonneg hx]
    have a := Int.ediv_nonneg hx (Int.le_of_lt hy)
    have b := Int.ediv_le_self y.toInt hx
    exact Int.bmod_eq_of_le (by omega) (by omega)
  have e := Int.mul_ediv_add_emod x.toInt y.toInt
  have m0 := Int.emod_nonneg x.toInt (show y.toInt ≠ 0 by omega)
  have m1 := Int.emod_lt_of_pos x.toInt hy
  have p0 : 0 ≤ y.toInt * (x.toInt / y.toInt) := Int.mul_nonneg (by omega) (Int.ediv_nonneg hx (Int.le_of_lt hy))
  have dm : (x / y * y).toInt = y.toInt * (x.toInt / y.toInt) := by
    rw [Int64.toInt_mul, d1, Int.mul_comm]
    exact Int.bmod_eq_of_le (by omega) (by omega)
  show (x - x / y * y).toInt = _
  rw [tSL (by rw [dm]; omega) (by rw [dm]; omega), dm]
  omega
theorem lg_z (x : Int64) : lg_cmp x 0 = 0 ↔ x = 0 := by
  unfold lg_cmp
  by_cases c : x > 0
  · rw [if_pos c]
    refine ⟨fun h => absurd h (by decide +kernel), fun h => ?_⟩
    rw [h] at c
    exact absurd c (by decide +kernel)
  · rw [if_neg c]
    by_cases e : x = 0
    · rw [if_pos e]
      exact ⟨fun _ => e, fun _ => rfl⟩
    · rw [if_neg e]
      exact ⟨fun h => absurd h (by decide +kernel), fun h => absurd h e⟩
theorem i64_ne {x : Int64} (h : ¬ x = 0) : x.toInt ≠ 0 := fun q => h (Int64.toInt_inj.mp q)
theorem gcd_l {a b : Int64} : ∀ (k i fu : Nat) (x y : Int64), i + 2 * k + 2 ≤ 200 → 2 * k + 1 < fu → 0 ≤ x.toInt → (0 ≤ y.toInt ∧ y.toInt < 2 ^ k) → (0 < x.toInt ∨ 0 < y.toInt) →
    ∃ g : Int64, 0 < g.toInt ∧ X11_commonDivisor_L9 fu x y (nI i) μ = some (g, μ) ∧ X12_fraction_L9 fu a b x y ν = some (1, wL (wL ν 13 0 2 (a / g)) 13 0 3 (b / g)) := by
  have fin : ∀ (i fu : Nat) (x y : Int64), i < 200 → 0 < fu → y = 0 → 0 < x.toInt → ∃ g : Int64, 0 < g.toInt ∧ X11_commonDivisor_L9 fu x y (nI i) μ = some (g, μ) ∧ X12_fraction_L9 fu a b x y ν = some (1, wL (wL ν 13 0 2 (a / g)) 13 0 3 (b / g)) := by
    intro i fu x y hi hf hy hx
    obtain ⟨fu, rfl⟩ : ∃ f, fu = f + 1 := ⟨fu - 1, by omega⟩
    have nx : ¬ x = 0 := fun q => by rw [q] at hx; exact absurd hx (by decide)
    refine ⟨x, hx, ?_, ?_⟩
    · unfold X11_commonDivisor_L9
      rw [if_neg (show ¬ (200 : Int32) ≤ nI i from nI_ge (b := 200) hi (by omega)), if_pos ((lg_z y).mpr hy)]
    · unfold X12_fraction_L9
      rw [if_pos ((lg_z y).mpr hy), if_neg nx, if_neg nx]
  have one : ∀ (i fu : Nat) (x y : Int64), i < 200 → ¬ y = 0 → X11_commonDivisor_L9 (fu + 1) x y (nI i) μ = X11_commonDivisor_L9 fu y (lrm x y) (nI (i + 1)) μ ∧ X12_fraction_L9 (fu + 1) a b x y ν = X12_fraction_L9 fu a b y (lrm x y) ν := by
    intro i fu x y hi hy
    constructor
    · rw [X11_commonDivisor_L9]
      rw [if_neg (show ¬ (200 : Int32) ≤ nI i from nI_ge (b := 200) hi (by omega)), if_neg (fun q => hy ((lg_z y).mp q)), if_neg hy, nI_1]
    · rw [X12_fraction_L9]
      rw [if_neg (fun q => hy ((lg_z y).mp q)), if_neg hy]
  intro k
  induction k with
  | zero =>
    intro i fu x y h1 h2 hx hy hp
    have e : y.toInt = 0 := by
      have := hy.2
      simp at this
      omega
    exact fin i fu x y (by omega) (by omega) (Int64.toInt_inj.mp e) (by omega)
  | succ k ih =>
    intro i fu x y h1 h2 hx hy hp
    by_cases c : y = 0
    · have e : y.toInt = 0 := by rw [c]; rfl
      exact fin i fu x y (by omega) (by omega) c (by omega)
    · have yp : 0 < y.toInt := by
        have := i64_ne c
        omega
      obtain ⟨fu, rfl⟩ : ∃ f, fu = f + 2 := ⟨fu - 2, by omega⟩
      obtain ⟨o1, o2⟩ := one i (fu + 1) x y (by omega) c
      rw [o1, o2]
      have r := lrm_b hx yp
      have m0 := Int.emod_nonneg x.toInt (show y.toInt ≠ 0 by omega)
      have m1 := Int.emod_lt_of_pos x.toInt yp
      by_cases d : lrm x y = 0
      · exact fin (i + 1) (fu + 1) y (lrm x y) (by omega) (by omega) d yp
      · have rp : 0 < (lrm x y).toInt := by
          have := i64_ne d
          omega
        obtain ⟨q1, q2⟩ := one (i + 1) fu y (lrm x y) (by omega) d
        rw [q1, q2]
        have r2 := lrm_b (Int.le_of_lt yp) rp
        have n0 := Int.emod_nonneg y.toInt (show (lrm x y).toInt ≠ 0 by omega)
        have n1 := Int.emod_lt_of_pos y.toInt rp
        have e := Int.mul_ediv_add_emod y.toInt (lrm x y).toInt
        have dv : 1 ≤ y.toInt / (lrm x y).toInt := Int.le_ediv_of_mul_le rp (by omega)
        have mm : (lrm x y).toInt * 1 ≤ (lrm x y).toInt * (y.toInt / (lrm x y).toInt) := Int.mul_le_mul_of_nonneg_left dv (by omega)
        have hk : (2 : Int) ^ (k + 1) = 2 * 2 ^ k := by
          rw [Int.pow_succ, Int.mul_comm]
        exact ih (i + 1 + 1) fu (lrm x y) (lrm y (lrm x y)) (by omega) (by omega) (by omega) ⟨by omega, by omega⟩ (Or.inl rp)
theorem frac2 {a b : Int64} (ha : 0 ≤ a.toInt) (hb : 0 < b.toInt) (μ ν : sM) : ∃ g : Int64, X11_tellFraction a b μ = some (wL (wL μ 12 0 1 (a / g)) 12 0 2 (b / g)) ∧ X12_fraction a b ν = some (1, wL (wL ν 13 0 2 (a / g)) 13 0 3 (b / g)) := by
  have b1 := Int64.toInt_lt b
  obtain ⟨g, g0, e1, e2⟩ := gcd_l (μ := μ) (ν := ν) (a := a) (b := b) 63 0 fuN a b (by omega) (fuN_6 (by omega)) ha ⟨by omega, b1⟩ (Or.inr hb)
  rw [nI_0] at e1
  have el : lab a = a := by
    show (if 0 < a then a else -a) = a
    by_cases c : 0 < a
    · rw [if_pos c]
    · rw [if_neg c]
      rw [Int64.lt_iff_toInt_lt] at c
      have z : a = 0 := Int64.toInt_inj.mp (by
        have : (0 : Int64).toInt = 0 := rfl
        omega)
      rw [z]
      decide +kernel
  have em : lmx 1 g = g := by
    show (if g < 1 then 1 else g) = g
    rw [if_neg]
    rw [Int64.lt_iff_toInt_lt]
    have : (1 : Int64).toInt = 1 := rfl
    omega
  have gn : ¬ g = 0 := fun q => by rw [q] at g0; exact absurd g0 (by decide)
  refine ⟨g, ?_, ?_⟩
  · unfold X11_tellFraction X11_commonDivisor
    rw [e1, bL_s, em, if_neg gn, if_neg gn]
  · unfold X12_fraction
    rw [el, e2]
theorem Rel_f (h : Rel B μ ν) (x y : Int64) : Rel (B + 2000) (wI (wL (wL μ 12 0 1 x) 12 0 2 y) 12 0 0 0) (wL (wL (m0 ν) 13 0 2 x) 13 0 3 y) := by
  refine Rel_g false true true true h (kq_wI rfl (kq_wL rfl (kq_wL rfl kq_r))) (kq_wL rfl (kq_wL rfl (kq_wI rfl (kq_wI rfl kq_r)))) ?_ (fun _ => ⟨?_, ?_⟩) (by simp) (by simp) (by simp) (by omega)
  · rw [rI_s, rI_wL, rI_wL, rI_s]
  · rw [rL_wI, rL_j (by decide), rL_s, rL_j (by decide), rL_s]
  · rw [rL_wI, rL_s, rL_s]
theorem m_price (a : Int32) : BoI B (X11_price a) (X12_price a) := fun μ ν h => by
  obtain ⟨-, hR, ok, h9, hx⟩ := Rel_i h
  have u := ok.1.2.2
  unfold rg at u
  unfold X11_price X12_price
  rw [hasW_e, bI_s, isW_e _ _ (by rw [m0_k (by decide)]; omega), bI_s, hR.1.2.2.1, m0_k (by decide)]
  by_cases c1 : 0 ≤ a.toInt ∧ a.toInt < (rI ν 61 0 2).toInt
  · obtain ⟨p, rfl, hp, hp'⟩ := seg_nI c1.1 (n := 6) (by omega) (by omega)
    have z := hR.2.2.2.2 p (by omega)
    have w := ok.2.2.2.2.2 p (by omega)
    unfold rg at w
    obtain ⟨g, e1, e2⟩ := frac2 (a := (rI ν 61 0 (58 + p)).toInt64) (b := (rI ν 61 0 (52 + p)).toInt64) (by rw [tX]; omega) (by rw [tX]; omega) μ (m0 ν)
    refine ⟨1, _, _, ?_, ?_, Rel_f h ((rI ν 61 0 (58 + p)).toInt64 / g) ((rI ν 61 0 (52 + p)).toInt64 / g)⟩
    · rw [if_pos c1, if_neg n10, if_pos (inb_nI hp (by omega)), if_pos (inb_nI hp (by omega)), ix_nI (by omega), z.1, z.2.1, e1, bV_s]; rfl
    · rw [if_pos c1, if_neg n10, l58, l52, if_pos (inb_nI (by omega) (by omega)), if_pos (inb_nI (by omega) (by omega)), ix_nI (by omega), ix_nI (by omega), m0_k (by decide), m0_k (by decide), e2, bI_s, if_pos (by decide +kernel)]
  · exact ⟨0, _, _, by rw [if_neg c1]; rfl, by rw [if_neg c1]; rfl, re_b h 2⟩
theorem m_share (a : Int32) : BoI B (X11_share a) (X12_share a) := fun μ ν h => by
  obtain ⟨-, hR, ok, h9, hx⟩ := Rel_i h
  have u := ok.1.2.1
  unfold rg at u
  unfold X11_share X12_share
  rw [hasM_e, bI_s, isM_e _ _ (by rw [m0_k (by decide)]; omega), bI_s, hR.1.2.1, m0_k (by decide)]
  by_cases c1 : 0 ≤ a.toInt ∧ a.toInt < (rI ν 61 0 1).toInt
  · obtain ⟨p, rfl, hp, hp'⟩ := seg_nI c1.1 (n := 6) (by omega) (by omega)
    obtain ⟨G, g1, g2, g3, g4, -⟩ := allGround2 (μ := μ) (ν := m0 ν) (r := 0) (B := B) (by rw [m0_c]; exact hR) (by rw [m0_c]; exact ok)
    rw [if_pos c1, if_neg n10, if_neg n10, g1, bI_s, g2, bI_s]
    by_cases c2 : G = 0
    · exact ⟨0, _, _, by rw [if_pos c2]; rfl, by rw [if_pos c2]; rfl, re_b h 8⟩
    · have z := hR.2.2.2.1 p (by omega)
      have w := ok.2.2.2.2.1 p (by omega)
      have gn : G.toInt ≠ 0 := fun q => c2 (Int32.toInt_inj.mp q)
      obtain ⟨g, e1, e2⟩ := frac2 (a := (rI ν 61 0 (46 + p)).toInt64) (b := G.toInt64) (by rw [tX]; omega) (by rw [tX]; omega) μ (m0 ν)
      refine ⟨1, _, _, ?_, ?_, Rel_f h ((rI ν 61 0 (46 + p)).toInt64 / g) (G.toInt64 / g)⟩
      · rw [if_neg c2, if_pos (inb_nI hp (by omega)), ix_nI (by omega), z.2.2, e1, bV_s]; rfl
      · rw [if_neg c2, l46, if_pos (inb_nI (by omega) (by omega)), ix_nI (by omega), g2, bI_s, m0_k (by decide), e2, bI_s, if_pos (by decide +kernel)]
  · exact ⟨0, _, _, by rw [if_neg c1]; rfl, by rw [if_neg c1]; rfl, re_b h 2⟩
end C98c
