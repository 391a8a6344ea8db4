/-! 86: calls that read -/
section C86
variable {B : Int} {μ ν : sM}
theorem i_lit {a : Int32} {n : Nat} (h : a.toInt = n) (hn : n < 2 ^ 31) : a = nI n := Int32.toInt_inj.mp (by rw [nI_toInt hn, h])
theorem m_fault (a : Int32) : BoI B (X11_fault a) (X12_fault a) := fun μ ν h => by
  have hp := h.2.2.2.1
  have key : Rel (B + 2000) μ (wI ν 13 0 1 0) := Rel_q h kq_r (kq_wI rfl kq_r) (by rw [rI_j (by decide)]; exact h.1) (by omega)
  unfold X11_fault X12_fault
  by_cases a0 : a = 0
  · refine ⟨_, _, _, by rw [if_pos a0], by rw [if_pos a0, hp.2.1], key⟩
  · by_cases a1 : a = 1
    · refine ⟨_, _, _, by rw [if_neg a0, if_pos a1], by rw [if_neg a0, if_pos a1, hp.2.2], key⟩
    · refine ⟨-1, _, _, by rw [if_neg a0, if_neg a1], by rw [if_neg a0, if_neg a1], key⟩
theorem m_water (a : Int32) : BoL B (X11_water a) (X12_water a) := fun μ ν h => by
  obtain ⟨-, hR, ok, h9, hx⟩ := Rel_i h
  unfold X11_water X12_water
  rw [isIn_i, bI_s, show (0 : Int64).toInt = 0 from rfl, show (5 : Int64).toInt = 5 from rfl]
  simp only [lt_i, t0, show (6 : Int32).toInt = 6 from rfl]
  by_cases c : 0 ≤ a.toInt ∧ a.toInt ≤ 5
  · obtain ⟨p, rfl, hp, hp'⟩ := seg_nI c.1 (n := 6) (by omega) (by omega)
    have i6 : inb (nI p) 6 = true := inb_nI hp (by omega)
    have i10 : inb (nI (10 + p)) 1740 = true := inb_nI (by omega) (by omega)
    refine ⟨(rI ν 61 0 (10 + p)).toInt64, _, _, ?_, ?_, gi_b h⟩
    · rw [if_neg (by omega), if_pos (by omega), if_pos i6, ix_nI (by omega), hR.2.1 p hp]
    · rw [if_pos c, if_neg n10, show (10 : Int32) + nI p = nI (10 + p) from nI_add 10 p, if_pos i10, ix_nI (by omega), m0_k (by decide)]
  · refine ⟨(-1 : Int32).toInt64, _, _, ?_, ?_, re_b h 5⟩
    · by_cases c3 : a.toInt < 0
      · rw [if_pos c3]; rfl
      · rw [if_neg c3, if_neg (by omega)]; rfl
    · rw [if_neg c]; rfl
/-! sums -/
theorem sumX_l {r n : Nat} (hn : n ≤ 6) : ∀ (k i fu : Nat) (v : Int32) (μ : sM), i + k = n → k < fu → rI μ 4 r 0 = nI n → X3_allHeld_L4 fu r v (nI i) μ = some (v + sgm (rI μ 31 r) i k, μ)
  | 0, i, fu + 1, v, μ, h, _, hc => by
    unfold X3_allHeld_L4 sgm
    rw [hc, if_pos (nI_le (by omega) (by omega)), Int32.add_zero]
  | k + 1, i, fu + 1, v, μ, h, hf, hc => by
    unfold X3_allHeld_L4
    rw [hc, if_neg (nI_ge (by omega) (by omega)), if_pos (inb_nI (by omega) (by omega)), ix_nI (by omega), nI_1, sumX_l hn k (i + 1) fu _ _ (by omega) (by omega) hc]
    show some (v + rI μ 31 r i + _, μ) = some (v + (rI μ 31 r i + _), μ)
    rw [Int32.add_assoc]
theorem sumG_l {r n : Nat} (hn : n ≤ 6) : ∀ (k i fu : Nat) (v : Int32) (μ : sM), i + k = n → k < fu → rI μ 3 r 0 = nI n → X2_allGround_L4 fu r v (nI i) μ = some (v + sgm (rI μ 27 r) i k, μ)
  | 0, i, fu + 1, v, μ, h, _, hc => by
    unfold X2_allGround_L4 sgm
    rw [hc, if_pos (nI_le (by omega) (by omega)), Int32.add_zero]
  | k + 1, i, fu + 1, v, μ, h, hf, hc => by
    unfold X2_allGround_L4
    rw [hc, if_neg (nI_ge (by omega) (by omega)), if_pos (inb_nI (by omega) (by omega)), ix_nI (by omega), nI_1, sumG_l hn k (i + 1) fu _ _ (by omega) (by omega) hc]
    show some (v + rI μ 27 r i + _, μ) = some (v + (rI μ 27 r i + _), μ)
    rw [Int32.add_assoc]
theorem sumH_l {r n : Nat} (hn : n ≤ 6) : ∀ (k i fu : Nat) (v : Int32) (μ : sM), i + k = n → k < fu → rI μ 11 r 0 = nI n → X10_allHad_L4 fu r v (nI i) μ = some (v + sgm (rI μ 54 r) i k, μ)
  | 0, i, fu + 1, v, μ, h, _, hc => by
    unfold X10_allHad_L4 sgm
    rw [hc, if_pos (nI_le (by omega) (by omega)), Int32.add_zero]
  | k + 1, i, fu + 1, v, μ, h, hf, hc => by
    unfold X10_allHad_L4
    rw [hc, if_neg (nI_ge (by omega) (by omega)), if_pos (inb_nI (by omega) (by omega)), ix_nI (by omega), nI_1, sumH_l hn k (i + 1) fu _ _ (by omega) (by omega) hc]
    show some (v + rI μ 54 r i + _, μ) = some (v + (rI μ 54 r i + _), μ)
    rw [Int32.add_assoc]
theorem sumM_l {n b : Nat} (hn : n ≤ 6) (hb : b ≤ 100) : ∀ (k i fu : Nat) (v : Int32) (ν : sM), i + k = n → k < fu → X12_sumOf_L5 fu (nI b) (nI n) v (nI i) ν = some (v + sgm (fun j => rI ν 61 0 (b + j)) i k, ν)
  | 0, i, fu + 1, v, μ, h, _ => by
    unfold X12_sumOf_L5 sgm
    rw [if_pos (nI_le (by omega) (by omega)), Int32.add_zero]
  | k + 1, i, fu + 1, v, μ, h, hf => by
    unfold X12_sumOf_L5
    rw [if_neg (nI_ge (by omega) (by omega)), nI_add, if_pos (inb_nI (by omega) (by omega)), ix_nI (by omega), nI_1, sumM_l hn hb k (i + 1) fu _ _ (by omega) (by omega)]
    show some (v + rI μ 61 0 (b + i) + _, μ) = some (v + (rI μ 61 0 (b + i) + _), μ)
    rw [Int32.add_assoc]
theorem sumM_e {n b : Nat} (hn : n ≤ 6) (hb : b ≤ 100) (ν : sM) : X12_sumOf (nI b) (nI n) ν = some (sgm (fun j => rI ν 61 0 (b + j)) 0 n, ν) := by
  unfold X12_sumOf
  have h := sumM_l hn hb n 0 fuN 0 ν (by omega) (fuN_6 (by omega))
  rw [nI_0, Int32.zero_add] at h
  exact h
/-- what the MILLS have GROUND, on both sides -/
theorem allGround2 {r : Nat} (hR : Riv μ r (rI ν 61 0)) (ok : OkR B (rI ν 61 0)) : ∃ g, X2_allGround r μ = some (g, μ) ∧ X12_allGround ν = some (g, ν) ∧ 0 ≤ g.toInt ∧ g.toInt ≤ 70000 ∧ g = sgm (fun j => rI ν 61 0 (46 + j)) 0 (ix (rI ν 61 0 1)) := by
  obtain ⟨m, hm, m6, hm'⟩ := rg_nI (b := 6) ok.1.2.1
  have hc : rI μ 3 r 0 = nI m := hR.1.2.1.trans hm
  have h6 := ok.2.1.2.2.2.1
  unfold rg at h6
  refine ⟨sgm (fun j => rI ν 61 0 (46 + j)) 0 m, ?_, ?_, ?_⟩
  · unfold X2_allGround
    have h := sumG_l m6 m 0 fuN 0 μ (by omega) (fuN_6 (by omega)) hc
    rw [nI_0, Int32.zero_add] at h
    rw [h, sgm_c m 0 (fun j _ hj => (hR.2.2.2.1 j (by omega)).2.2)]
  · unfold X12_allGround
    rw [hm, show (46 : Int32) = nI 46 from rfl, sumM_e m6 (by omega), bI_s]
  · have z := sgm_b (g := fun j => rI ν 61 0 (46 + j)) (M := 10600) (by omega) m 0 m6 (by omega) (fun j _ hj => by
      have q := ok.2.2.2.2.1 j (by omega)
      omega)
    refine ⟨z.1, by omega, ?_⟩
    rw [hm, ix_nI (by omega)]
theorem countAt_l {r n : Nat} (hn : n ≤ 6) (a : Int32) : ∀ (k i fu : Nat) (v : Int32) (μ : sM), i + k = n → k < fu → rI μ 3 r 0 = nI n → X2_countAt_L4 fu r a v (nI i) μ = some (v + sgm (fun j => if rI μ 25 r j = a then 1 else 0) i k, μ)
  | 0, i, fu + 1, v, μ, h, _, hc => by
    unfold X2_countAt_L4 sgm
    rw [hc, if_pos (nI_le (by omega) (by omega)), Int32.add_zero]
  | k + 1, i, fu + 1, v, μ, h, hf, hc => by
    unfold X2_countAt_L4 X2_countAt_J25
    rw [hc, if_neg (nI_ge (by omega) (by omega)), if_pos (inb_nI (by omega) (by omega)), ix_nI (by omega), nI_1]
    show _ = some (v + ((if rI μ 25 r i = a then 1 else 0) + _), μ)
    by_cases c : rI μ 25 r i = a
    · rw [if_pos c, if_pos c, countAt_l hn a k (i + 1) fu _ _ (by omega) (by omega) hc, Int32.add_assoc]
    · rw [if_neg c, if_neg c, countAt_l hn a k (i + 1) fu _ _ (by omega) (by omega) hc, Int32.zero_add]
theorem millsAt_l {n : Nat} (hn : n ≤ 6) (a : Int32) : ∀ (k i fu : Nat) (v : Int32) (ν : sM), i + k = n → k < fu → rI ν 61 0 1 = nI n → X12_millsAt_L4 fu a v (nI i) ν = some (v + sgm (fun j => if rI ν 61 0 (34 + j) = a then 1 else 0) i k, ν)
  | 0, i, fu + 1, v, μ, h, _, hc => by
    unfold X12_millsAt_L4 sgm
    rw [hc, if_pos (nI_le (by omega) (by omega)), Int32.add_zero]
  | k + 1, i, fu + 1, v, μ, h, hf, hc => by
    unfold X12_millsAt_L4 X12_millsAt_J33
    rw [hc, if_neg (nI_ge (by omega) (by omega)), l34, if_pos (inb_nI (by omega) (by omega)), ix_nI (by omega), nI_1]
    show _ = some (v + ((if rI μ 61 0 (34 + i) = a then 1 else 0) + _), μ)
    by_cases c : rI μ 61 0 (34 + i) = a
    · rw [if_pos c, if_pos c, millsAt_l hn a k (i + 1) fu _ _ (by omega) (by omega) hc, Int32.add_assoc]
    · rw [if_neg c, if_neg c, millsAt_l hn a k (i + 1) fu _ _ (by omega) (by omega) hc, Int32.zero_add, Int32.add_zero]
theorem m_mill (a c : Int32) : BoI B (X11_mill a c) (X12_mill a c) := fun μ ν h => by
  obtain ⟨-, hR, ok, h9, hx⟩ := Rel_i h
  have u := ok.1.2.1
  unfold rg at u
  have e : rI μ 3 0 0 = rI ν 61 0 1 := hR.1.2.1
  unfold X11_mill X12_mill
  rw [hasM_e, bI_s, isM_e _ _ (by rw [m0_k (by decide)]; omega), bI_s, e, m0_k (by decide)]
  by_cases c1 : 0 ≤ a.toInt ∧ a.toInt < (rI ν 61 0 1).toInt
  · obtain ⟨p, rfl, hp, hp'⟩ := seg_nI c1.1 (n := 6) (by omega) (by omega)
    have i6 : inb (nI p) 6 = true := inb_nI hp (by omega)
    have z := hR.2.2.2.1 p (by omega)
    have go : ∀ q, q < 3 → inb (nI (34 + 6 * q + p)) 1740 = true ∧ ix (nI (34 + 6 * q + p)) = 34 + 6 * q + p := fun q hq => ⟨inb_nI (by omega) (by omega), ix_nI (by omega)⟩
    have eq : ∀ q : Nat, q < 3 → (34 : Int32) + 6 * nI q + nI p = nI (34 + 6 * q + p) := by
      intro q hq
      rw [show (6 : Int32) = nI 6 from rfl, pk_mul, show (34 : Int32) = nI 34 from rfl, nI_add, nI_add]
    rw [if_pos c1, if_neg n10, if_neg n10, isIn_i, bI_s, show (0 : Int64).toInt = 0 from rfl, show (2 : Int64).toInt = 2 from rfl]
    by_cases a0 : c = 0
    · refine ⟨rI ν 61 0 (34 + p), _, _, ?_, ?_, gi_b h⟩
      · rw [if_pos a0, if_pos i6, ix_nI (by omega), z.1]; rfl
      · have g := go 0 (by omega)
        rw [a0, if_neg (by decide +kernel), show (34 : Int32) + 6 * 0 + nI p = nI (34 + 6 * 0 + p) from eq 0 (by omega), if_pos g.1, g.2, m0_k (by decide)]
    · by_cases a1 : c = 1
      · refine ⟨rI ν 61 0 (40 + p), _, _, ?_, ?_, gi_b h⟩
        · rw [if_neg a0, if_pos a1, if_pos i6, ix_nI (by omega), z.2.1]; rfl
        · have g := go 1 (by omega)
          rw [a1, if_neg (by decide +kernel), show (34 : Int32) + 6 * 1 + nI p = nI (34 + 6 * 1 + p) from eq 1 (by omega), if_pos g.1, g.2, m0_k (by decide)]
      · by_cases a2 : c = 2
        · refine ⟨rI ν 61 0 (46 + p), _, _, ?_, ?_, gi_b h⟩
          · rw [if_neg a0, if_neg a1, if_pos a2, if_pos i6, ix_nI (by omega), z.2.2]; rfl
          · have g := go 2 (by omega)
            rw [a2, if_neg (by decide +kernel), show (34 : Int32) + 6 * 2 + nI p = nI (34 + 6 * 2 + p) from eq 2 (by omega), if_pos g.1, g.2, m0_k (by decide)]
        · refine ⟨-1, _, _, ?_, ?_, re_b h 5⟩
          · rw [if_neg a0, if_neg a1, if_neg a2]; rfl
          · rw [if_neg (show ¬ (0 ≤ c.toInt ∧ c.toInt ≤ 2) from fun w => by
              rcases (show c.toInt = 0 ∨ c.toInt = 1 ∨ c.toInt = 2 by omega) with q | q | q
              · exact a0 (Int32.toInt_inj.mp q)
              · exact a1 (Int32.toInt_inj.mp q)
              · exact a2 (Int32.toInt_inj.mp q))]; rfl
  · refine ⟨-1, _, _, ?_, ?_, re_b h 2⟩
    · rw [if_neg c1]; rfl
    · rw [if_neg c1]; rfl
theorem m_winder (a c : Int32) : BoI B (X11_winder a c) (X12_winder a c) := fun μ ν h => by
  obtain ⟨-, hR, ok, h9, hx⟩ := Rel_i h
  have u := ok.1.2.2
  unfold rg at u
  have e : rI μ 11 0 0 = rI ν 61 0 2 := hR.1.2.2.1
  unfold X11_winder X12_winder
  rw [hasW_e, bI_s, isW_e _ _ (by rw [m0_k (by decide)]; omega), bI_s, e, m0_k (by decide)]
  by_cases c1 : 0 ≤ a.toInt ∧ a.toInt < (rI ν 61 0 2).toInt
  · obtain ⟨p, rfl, hp, hp'⟩ := seg_nI c1.1 (n := 6) (by omega) (by omega)
    have i6 : inb (nI p) 6 = true := inb_nI hp (by omega)
    have z := hR.2.2.2.2 p (by omega)
    have go : ∀ q, q < 4 → inb (nI (52 + 6 * q + p)) 1740 = true ∧ ix (nI (52 + 6 * q + p)) = 52 + 6 * q + p := fun q hq => ⟨inb_nI (by omega) (by omega), ix_nI (by omega)⟩
    have eq : ∀ q : Nat, q < 4 → (52 : Int32) + 6 * nI q + nI p = nI (52 + 6 * q + p) := by
      intro q hq
      rw [show (6 : Int32) = nI 6 from rfl, pk_mul, show (52 : Int32) = nI 52 from rfl, nI_add, nI_add]
    rw [if_pos c1, if_neg n10, if_neg n10, isIn_i, bI_s, show (0 : Int64).toInt = 0 from rfl, show (3 : Int64).toInt = 3 from rfl]
    by_cases a0 : c = 0
    · refine ⟨rI ν 61 0 (52 + p), _, _, ?_, ?_, gi_b h⟩
      · rw [if_pos a0, if_pos i6, ix_nI (by omega), z.1]; rfl
      · have g := go 0 (by omega)
        rw [a0, if_neg (by decide +kernel), show (52 : Int32) + 6 * 0 + nI p = nI (52 + 6 * 0 + p) from eq 0 (by omega), if_pos g.1, g.2, m0_k (by decide)]
    · by_cases a1 : c = 1
      · refine ⟨rI ν 61 0 (58 + p), _, _, ?_, ?_, gi_b h⟩
        · rw [if_neg a0, if_pos a1, if_pos i6, ix_nI (by omega), z.2.1]; rfl
        · have g := go 1 (by omega)
          rw [a1, if_neg (by decide +kernel), show (52 : Int32) + 6 * 1 + nI p = nI (52 + 6 * 1 + p) from eq 1 (by omega), if_pos g.1, g.2, m0_k (by decide)]
      · by_cases a2 : c = 2
        · refine ⟨rI ν 61 0 (64 + p), _, _, ?_, ?_, gi_b h⟩
          · rw [if_neg a0, if_neg a1, if_pos a2, if_pos i6, ix_nI (by omega), z.2.2.1]; rfl
          · have g := go 2 (by omega)
            rw [a2, if_neg (by decide +kernel), show (52 : Int32) + 6 * 2 + nI p = nI (52 + 6 * 2 + p) from eq 2 (by omega), if_pos g.1, g.2, m0_k (by decide)]
        · by_cases a3 : c = 3
          · refine ⟨rI ν 61 0 (70 + p), _, _, ?_, ?_, gi_b h⟩
            · rw [if_neg a0, if_neg a1, if_neg a2, if_pos a3, if_pos i6, ix_nI (by omega), z.2.2.2]; rfl
            · have g := go 3 (by omega)
              rw [a3, if_neg (by decide +kernel), show (52 : Int32) + 6 * 3 + nI p = nI (52 + 6 * 3 + p) from eq 3 (by omega), if_pos g.1, g.2, m0_k (by decide)]
          · refine ⟨-1, _, _, ?_, ?_, re_b h 5⟩
            · rw [if_neg a0, if_neg a1, if_neg a2, if_neg a3]; rfl
            · rw [if_neg (show ¬ (0 ≤ c.toInt ∧ c.toInt ≤ 3) from fun w => by
                rcases (show c.toInt = 0 ∨ c.toInt = 1 ∨ c.toInt = 2 ∨ c.toInt = 3 by omega) with q | q | q | q
                · exact a0 (Int32.toInt_inj.mp q)
                · exact a1 (Int32.toInt_inj.mp q)
                · exact a2 (Int32.toInt_inj.mp q)
                · exact a3 (Int32.toInt_inj.mp q))]; rfl
  · refine ⟨-1, _, _, ?_, ?_, re_b h 2⟩
    · rw [if_neg c1]; rfl
    · rw [if_neg c1]; rfl
end C86
