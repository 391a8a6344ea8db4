/-! 76: the class's HOUR: rain, floods, mills, the spring -/
section H76
variable {μ : sM} {r n m : Nat} {f P : Nat → Int32} {B : Int}
theorem flow_7 (h : Hyp B f P n m) : drF (flowF f P n) = f 7 * f 4 := by
  unfold drF
  rw [flow_o (by omega) (by omega), flow_o (by omega) (by omega)]
theorem dr_b (h : Hyp B f P n m) : 0 ≤ (drF (flowF f P n)).toInt ∧ (drF (flowF f P n)).toInt ≤ 99 := by
  rw [flow_7 h]
  have a := h.1.2.1.2.1
  unfold rg at a
  rcases h.1.2.1.2.2.2.2.1 with e | e
  · rw [e, Int32.zero_mul, t0]
    omega
  · rw [e, Int32.one_mul]
    omega
theorem fl_b (h : Hyp B f P n m) {j : Nat} (hj : j < n) : 0 ≤ (flF (flowF f P n) j).toInt ∧ (flF (flowF f P n) j).toInt ≤ 1197 := by
  unfold flF
  have a := flow_b h hj
  have b := dr_b h
  have n6 := h.2.2.2.1
  have hr := h.1.2.2.2.1 j (by rw [h.2.1, nI_toInt (by omega)]; omega)
  unfold rg at hr
  rw [tmx, t0, flow_o (f := f) (j := 16 + j) (by omega) (by omega)]
  rw [tS (by rw [tA (by omega) (by omega)]; omega) (by rw [tA (by omega) (by omega)]; omega), tA (by omega) (by omega)]
  omega
/-- the row when the rain has fallen, ahead of the floods -/
def wetF (F : Nat → Int32) (n : Nat) : Nat → Int32 := fun j => if j = 15 then F 15 + sgm (fun _ => drF F) 0 n else if 28 ≤ j ∧ j < 28 + n then F j + drF F else F j
/-- the rest of an HOUR behind the floods -/
def tailX (r : Nat) (μ : sM) : Option (Int32 × sM) :=
  bI (X2_grind_32 r r μ) fun x3 μ4 =>
    bV (X4_slacken r μ4) fun μ6 =>
      some (x3, wI μ6 5 r 4 ((rI μ6 5 r 4) + 1))
theorem spillX (h : Hyp B f P n m) (hR : Riv μ r (wetF (flowF f P n) n)) (hp : ∀ j, j < n → rI μ 32 r j = P j) :
    ∃ μ3, X4_passHour_J65 r μ = tailX r μ3 ∧ Riv μ3 r (rnF (flowF f P n) n) ∧ (∀ j, j < n → rI μ3 33 r j = flF (flowF f P n) j) ∧ ∀ j, j < n → rI μ3 32 r j = P j := by
  have h' := h
  obtain ⟨ok, hn, hm, n6, m6, h6, hB, hP⟩ := h'
  have w0 : wetF (flowF f P n) n 0 = f 0 := by
    unfold wetF
    rw [if_neg (by decide), if_neg (by omega), flow_o (by omega) (by omega)]
  have hc : rI μ 4 r 0 = nI n := hR.1.1.trans (w0.trans hn)
  have nn : (f 0).toInt = n := by rw [hn, nI_toInt (by omega)]
  have es : ∀ j, j < n → spl μ r j = flF (flowF f P n) j := by
    intro j hj
    have hrj := hR.2.2.1 j (by rw [w0]; omega)
    show imx 0 (rI μ 31 r j - rI μ 29 r j) = _
    rw [hrj.1, hrj.2.2]
    unfold wetF flF
    rw [if_neg (by omega), if_pos (by omega), if_neg (by omega), if_neg (by omega)]
  unfold X4_passHour_J65
  rw [spill_e n6 hc, bI_s, sgm_c (h := flF (flowF f P n)) n 0 (fun j _ hj => es j (by omega))]
  refine ⟨_, rfl, ?_, fun j hj => ?_, fun j hj => ?_⟩
  · refine Riv_hw (f := wetF (flowF f P n) n) (μ := μ) (fun k j a b c => ?_) (fun j a b => ?_) (fun j hj => ?_) (fun j hj => ?_) (by rw [w0]; omega) hR
    · rw [rI_wL, sC_k a, sC_k c]
    · unfold rnF wetF
      rw [if_neg (by omega), if_neg (by omega), if_neg (by omega), if_neg (by omega), if_neg (by omega)]
    · have wj := hR.2.1 j hj
      by_cases e3 : j = 3
      · subst e3
        rw [rL_s, wj]
        have e1 : wetF (flowF f P n) n (10 + 3) = f 13 := by
          unfold wetF
          rw [if_neg (by decide), if_neg (by omega), flow_o (by omega) (by omega)]
        have e2 : rnF (flowF f P n) n (10 + 3) = f 13 + sgm (flF (flowF f P n)) 0 n := by
          unfold rnF
          rw [if_neg (by decide), if_pos (by decide), flow_o (by omega) (by omega)]
        rw [e1, e2]
        have sb := sgm_b (g := flF (flowF f P n)) (M := 1197) (by omega) n 0 n6 (by omega) (fun j _ hj => fl_b h (by omega))
        have ww : -1200000000 ≤ (f 13).toInt ∧ (f 13).toInt ≤ 1200000000 := h.wat (j := 3) (by omega)
        exact wat_a (by omega) (by omega)
      · rw [rL_j e3]
        show rL μ 34 r j = _
        rw [wj]
        unfold wetF rnF
        by_cases e5 : 10 + j = 15
        · rw [if_pos e5, if_pos e5]
        · rw [if_neg e5, if_neg e5, if_neg (show ¬ 10 + j = 13 by omega), if_neg (by omega), if_neg (by omega)]
    · have hj' : j < n := by rw [w0] at hj; omega
      rw [rI_wL, sC_s, if_pos hj', es j hj', (hR.2.2.1 j hj).2.2]
      unfold wetF rnF
      rw [if_neg (by omega), if_pos (by omega), if_neg (by omega), if_neg (by omega), if_pos (by omega), show 28 + j - 28 = j by omega]
      rw [Int32.sub_eq_add_neg, Int32.sub_eq_add_neg, Int32.add_assoc]
  · rw [rI_wL, sC_k (by decide), sC_s, if_pos hj, es j hj]
  · rw [rI_wL, sC_k (by decide), sC_k (by decide)]
    exact hp j hj
theorem floodX (h : Hyp B f P n m) (hR : Riv μ r (flowF f P n)) (hp : ∀ j, j < n → rI μ 32 r j = P j) :
    ∃ μ3, X4_passHour_J25 r μ = tailX r μ3 ∧ Riv μ3 r (rnF (flowF f P n) n) ∧ (∀ j, j < n → rI μ3 33 r j = flF (flowF f P n) j) ∧ ∀ j, j < n → rI μ3 32 r j = P j := by
  have h' := h
  obtain ⟨ok, hn, hm, n6, m6, h6, hB, hP⟩ := h'
  have f0 : flowF f P n 0 = f 0 := flow_o (by omega) (by omega)
  have nn : (f 0).toInt = n := by rw [hn, nI_toInt (by omega)]
  have hc : rI μ 4 r 0 = nI n := hR.1.1.trans (f0.trans hn)
  have f7 : rI μ 5 r 6 = f 7 := hR.1.2.2.2.2.2.2.2.1.trans (flow_o (by omega) (by omega))
  have f4 : rI μ 5 r 2 = f 4 := hR.1.2.2.2.2.1.trans (flow_o (by omega) (by omega))
  have d7 := flow_7 h
  have r4 := ok.2.1.2.1
  unfold rg at r4
  unfold X4_passHour_J25
  rw [f7]
  rcases ok.2.1.2.2.2.2.1 with e7 | e7
  · rw [if_pos e7]
    refine spillX h ?_ hp
    have dz : drF (flowF f P n) = 0 := by rw [d7, e7, Int32.zero_mul]
    have ew : ∀ j, wetF (flowF f P n) n j = flowF f P n j := by
      intro j
      unfold wetF
      rw [dz, sgm_const, Int32.zero_mul, Int32.add_zero, Int32.add_zero]
      by_cases a : j = 15
      · rw [if_pos a, a]
      · rw [if_neg a]
        by_cases b : 28 ≤ j ∧ j < 28 + n
        · rw [if_pos b]
        · rw [if_neg b]
    rw [funext ew]
    exact hR
  · rw [if_neg (by rw [e7]; decide +kernel), f4, addEach_e (f 4) n6 hc, bV_s]
    have dz : drF (flowF f P n) = f 4 := by rw [d7, e7, Int32.one_mul]
    refine spillX h ?_ (fun j hj => by rw [rI_wL, sC_k (by decide)]; exact hp j hj)
    refine Riv_hw (f := flowF f P n) (μ := μ) (fun k j a b c => ?_) (fun j a b => ?_) (fun j hj => ?_) (fun j hj => ?_) (by rw [f0]; omega) hR
    · rw [rI_wL, sC_k a]
    · unfold wetF
      rw [if_neg (by omega), if_neg (by omega)]
    · have wj := hR.2.1 j hj
      by_cases e5 : j = 5
      · subst e5
        rw [rL_s, rL_sC, wj, sC_k (by decide), sC_k (by decide), f4, hc]
        have e1 : flowF f P n (10 + 5) = f 15 := flow_o (by omega) (by omega)
        have e2 : wetF (flowF f P n) n (10 + 5) = f 15 + f 4 * nI n := by
          unfold wetF
          rw [if_pos (by decide), dz, sgm_const, flow_o (by omega) (by omega)]
        rw [e1, e2]
        have ww : -1200000000 ≤ (f 15).toInt ∧ (f 15).toInt ≤ 1200000000 := h.wat (j := 5) (by omega)
        have mb : 0 ≤ (f 4).toInt * (nI n).toInt ∧ (f 4).toInt * (nI n).toInt ≤ 99 * 6 := by
          rw [nI_toInt (by omega)]
          exact ⟨Int.mul_nonneg r4.1 (by omega), Int.mul_le_mul r4.2 (by omega) (by omega) (by omega)⟩
        have tm := tM (a := f 4) (b := nI n) (by omega) (by omega)
        exact wat_a (by rw [tm]; omega) (by rw [tm]; omega)
      · rw [rL_j e5, rL_sC, wj]
        unfold wetF
        rw [if_neg (by omega), if_neg (by omega)]
    · have hj' : j < n := by rw [f0] at hj; omega
      rw [rI_wL, sC_s, if_pos hj', (hR.2.2.1 j hj).2.2]
      unfold wetF
      rw [if_neg (by omega), if_pos (by omega), dz]
theorem rn_o {F : Nat → Int32} {j : Nat} (h1 : j ≠ 13) (h2 : j ≠ 15) (h3 : j < 28 ∨ 28 + n ≤ j) : rnF F n j = F j := by
  unfold rnF
  rw [if_neg h2, if_neg h1, if_neg (by omega)]
theorem sl_eq {t b : Int32} (h : 0 ≤ b.toInt) (hb : b.toInt ≤ 100) (h1 : -60 ≤ t.toInt) (h2 : t.toInt ≤ 60) : slt t b = slM t b := by
  apply Int32.toInt_inj.mp
  show (if t < 0 then imn 0 (t + b) else imx 0 (t - b)).toInt = _
  unfold slM
  by_cases a : t < 0
  · rw [if_pos a]
    rw [Int32.lt_iff_toInt_lt, t0] at a
    rw [if_pos (by rw [Int32.le_iff_toInt_le, t0]; omega)]
  · rw [if_neg a]
    rw [Int32.lt_iff_toInt_lt, t0] at a
    by_cases c : t ≤ 0
    · rw [if_pos c]
      rw [Int32.le_iff_toInt_le, t0] at c
      rw [tmx, tmn, t0, tS (by omega) (by omega), tA (by omega) (by omega)]
      omega
    · rw [if_neg c]
theorem slk_b {s o : Int32} (h1 : 0 ≤ s.toInt) (h2 : s.toInt ≤ 9) : 0 ≤ (slk s o).toInt ∧ (slk s o).toInt ≤ 9 := by
  show 0 ≤ (if o ≤ 0 then s else (s + 1) / 2).toInt ∧ (if o ≤ 0 then s else (s + 1) / 2).toInt ≤ 9
  by_cases h : o ≤ 0
  · rw [if_pos h]
    exact ⟨h1, h2⟩
  · rw [if_neg h]
    obtain ⟨k, hk, hk9, -⟩ := rg_nI (x := s) (b := 9) ⟨h1, h2⟩
    rw [hk, nI_1, show (2 : Int32) = nI 2 from rfl, pk_div (by omega) (by omega) (by omega), nI_toInt (by omega)]
    omega
end H76
