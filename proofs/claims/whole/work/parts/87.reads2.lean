/-! 87: reach, many -/
section C87
variable {B : Int} {μ ν : sM}
theorem m_reach (a c : Int32) : BoI B (X11_reach a c) (X12_reach a c) := fun μ ν h => by
  obtain ⟨-, hR, ok, h9, hx⟩ := Rel_i h
  have u := ok.1.1
  unfold rg at u
  have e : rI μ 4 0 0 = rI ν 61 0 0 := hR.1.1
  unfold X11_reach X12_reach
  rw [hasR_e, bI_s, isR_e _ _ (by rw [m0_k (by decide)]; omega), bI_s, e, m0_k (by decide)]
  by_cases c1 : 0 ≤ a.toInt ∧ a.toInt < (rI ν 61 0 0).toInt
  · obtain ⟨p, rfl, hp, hp'⟩ := seg_nI c1.1 (n := 6) (by omega) (by omega)
    have i6 : inb (nI p) 6 = true := inb_nI hp (by omega)
    have z := hR.2.2.1 p (by omega)
    have go : ∀ q, q < 3 → inb (nI (16 + 6 * q + p)) 1740 = true ∧ ix (nI (16 + 6 * q + p)) = 16 + 6 * q + p := fun q hq => ⟨inb_nI (by omega) (by omega), ix_nI (by omega)⟩
    have eq : ∀ q : Nat, q < 3 → (16 : Int32) + 6 * nI q + nI p = nI (16 + 6 * q + p) := by
      intro q hq
      rw [show (6 : Int32) = nI 6 from rfl, pk_mul, show (16 : Int32) = nI 16 from rfl, nI_add, nI_add]
    rw [if_pos c1, if_neg n10, if_neg n10, isIn_i, bI_s, show (0 : Int64).toInt = 0 from rfl, show (4 : Int64).toInt = 4 from rfl]
    by_cases a0 : c = 0
    · refine ⟨rI ν 61 0 (16 + p), _, _, ?_, ?_, gi_b h⟩
      · rw [if_pos a0, if_pos i6, ix_nI (by omega), z.1]; rfl
      · have g := go 0 (by omega)
        rw [a0, if_neg (by decide +kernel), if_neg (by decide +kernel), show (16 : Int32) + 6 * 0 + nI p = nI (16 + 6 * 0 + p) from eq 0 (by omega), if_pos g.1, g.2, m0_k (by decide)]
    · by_cases a1 : c = 1
      · refine ⟨rI ν 61 0 (22 + p), _, _, ?_, ?_, gi_b h⟩
        · rw [if_neg a0, if_pos a1, if_pos i6, ix_nI (by omega), z.2.1]; rfl
        · have g := go 1 (by omega)
          rw [a1, if_neg (by decide +kernel), if_neg (by decide +kernel), show (16 : Int32) + 6 * 1 + nI p = nI (16 + 6 * 1 + p) from eq 1 (by omega), if_pos g.1, g.2, m0_k (by decide)]
      · by_cases a2 : c = 2
        · refine ⟨rI ν 61 0 (28 + p), _, _, ?_, ?_, gi_b h⟩
          · rw [if_neg a0, if_neg a1, if_pos a2, if_pos i6, ix_nI (by omega), z.2.2]; rfl
          · have g := go 2 (by omega)
            rw [a2, if_neg (by decide +kernel), if_neg (by decide +kernel), show (16 : Int32) + 6 * 2 + nI p = nI (16 + 6 * 2 + p) from eq 2 (by omega), if_pos g.1, g.2, m0_k (by decide)]
        · by_cases a3 : c = 3
          · refine ⟨imn (rI ν 61 0 (22 + p)) (rI ν 61 0 (28 + p)), _, _, ?_, ?_, gi_b h⟩
            · rw [if_neg a0, if_neg a1, if_neg a2, if_pos a3, if_pos i6, if_pos i6, ix_nI (by omega), z.2.1, z.2.2, imn_c]; rfl
            · rw [a3, if_neg (by decide +kernel), if_pos (by decide +kernel), if_pos rfl, passOf_e p hp, bI_s, m0_k (by decide), m0_k (by decide)]
          · by_cases a4 : c = 4
            · obtain ⟨m, hm, m6, hm'⟩ := rg_nI (b := 6) ok.1.2.1
              refine ⟨sgm (fun j => if rI ν 61 0 (34 + j) = nI p then 1 else 0) 0 m, _, _, ?_, ?_, gi_b h⟩
              · rw [if_neg a0, if_neg a1, if_neg a2, if_neg a3, if_pos a4]
                unfold X2_countAt
                have q := countAt_l m6 (nI p) m 0 fuN 0 μ (by omega) (fuN_6 (by omega)) (hR.1.2.1.trans hm)
                rw [nI_0, Int32.zero_add] at q
                rw [q, bI_s, sgm_c m 0 (fun j _ hj => by rw [(hR.2.2.2.1 j (by omega)).1])]
                rfl
              · rw [a4, if_neg (by decide +kernel), if_pos (by decide +kernel), if_neg (by decide +kernel)]
                unfold X12_millsAt
                have q := millsAt_l m6 (nI p) m 0 fuN 0 (m0 ν) (by omega) (fuN_6 (by omega)) (by rw [m0_k (by decide)]; exact hm)
                rw [nI_0, Int32.zero_add] at q
                rw [q, bI_s]
                simp only [m0_k (show (61 : Nat) ≠ 13 by decide)]
            · refine ⟨-1, _, _, ?_, ?_, re_b h 5⟩
              · rw [if_neg a0, if_neg a1, if_neg a2, if_neg a3, if_neg a4]; rfl
              · rw [if_neg (show ¬ (0 ≤ c.toInt ∧ c.toInt ≤ 4) from fun w => by
                  rcases (show c.toInt = 0 ∨ c.toInt = 1 ∨ c.toInt = 2 ∨ c.toInt = 3 ∨ c.toInt = 4 by omega) with q | q | q | q | q
                  · exact a0 (Int32.toInt_inj.mp q)
                  · exact a1 (Int32.toInt_inj.mp q)
                  · exact a2 (Int32.toInt_inj.mp q)
                  · exact a3 (Int32.toInt_inj.mp q)
                  · exact a4 (Int32.toInt_inj.mp q))]; rfl
  · refine ⟨-1, _, _, ?_, ?_, re_b h 2⟩
    · rw [if_neg c1]; rfl
    · rw [if_neg c1]; rfl
theorem figX {x : Int32} {a : Int32} (h : Rel B μ ν) (h0 : 0 ≤ a.toInt) (h1 : a.toInt ≤ 12) (e1 : X4_figure 0 a μ = some (x, μ)) (e2 : X12_many a ν = some (x, m0 ν)) : ∃ b μ' ν', X11_many a μ = some (b, μ') ∧ X12_many a ν = some (b, ν') ∧ Rel (B + 2000) μ' ν' := by
  refine ⟨x, _, _, ?_, e2, gi_b h⟩
  unfold X11_many
  simp only [lt_i, le_i, t0, show (12 : Int32).toInt = 12 from rfl]
  rw [if_neg (by omega), if_pos h1, e1]
  rfl
theorem m_many (a : Int32) : BoI B (X11_many a) (X12_many a) := fun μ ν h => by
  obtain ⟨-, hR, ok, h9, hx⟩ := Rel_i h
  obtain ⟨⟨c0, c1, c2, c3, c4, c5, c6, c7, c8, c9⟩, -, hr, hm, hd⟩ := hR
  by_cases c : 0 ≤ a.toInt ∧ a.toInt ≤ 12
  · have inn : X12_isIn a.toInt64 0 12 (m0 ν) = some (1, m0 ν) := by
      rw [isIn_i, show (0 : Int64).toInt = 0 from rfl, show (12 : Int64).toInt = 12 from rfl, if_pos c]
    have low : ∀ k : Nat, k < 7 → a = nI k → X12_many a ν = some (rI ν 61 0 k, m0 ν) := by
      intro k hk ha
      unfold X12_many
      rw [inn, bI_s, if_neg n10, ha, show (7 : Int32) = nI 7 from rfl, if_neg (nI_ge hk (by omega)), if_pos (inb_nI (by omega) (by omega)), ix_nI (by omega), m0_k (by decide)]
    rcases (show a.toInt = 0 ∨ a.toInt = 1 ∨ a.toInt = 2 ∨ a.toInt = 3 ∨ a.toInt = 4 ∨ a.toInt = 5 ∨ a.toInt = 6 ∨ a.toInt = 7 ∨ a.toInt = 8 ∨ a.toInt = 9 ∨ a.toInt = 10 ∨ a.toInt = 11 ∨ a.toInt = 12 by omega) with q | q | q | q | q | q | q | q | q | q | q | q | q
    · have ha : a = nI 0 := i_lit q (by omega)
      refine figX h c.1 c.2 ?_ (low 0 (by omega) ha)
      rw [ha, ← c0]; rfl
    · have ha : a = nI 1 := i_lit q (by omega)
      refine figX h c.1 c.2 ?_ (low 1 (by omega) ha)
      rw [ha, ← c1]; rfl
    · have ha : a = nI 2 := i_lit q (by omega)
      refine figX h c.1 c.2 ?_ (low 2 (by omega) ha)
      rw [ha, ← c2]; rfl
    · have ha : a = nI 3 := i_lit q (by omega)
      refine figX h c.1 c.2 ?_ (low 3 (by omega) ha)
      rw [ha, ← c3]; rfl
    · have ha : a = nI 4 := i_lit q (by omega)
      refine figX h c.1 c.2 ?_ (low 4 (by omega) ha)
      rw [ha, ← c4]; rfl
    · have ha : a = nI 5 := i_lit q (by omega)
      refine figX h c.1 c.2 ?_ (low 5 (by omega) ha)
      rw [ha, ← c5]; rfl
    · have ha : a = nI 6 := i_lit q (by omega)
      refine figX h c.1 c.2 ?_ (low 6 (by omega) ha)
      rw [ha, ← c6]; rfl
    · have ha : a = nI 7 := i_lit q (by omega)
      refine figX h c.1 c.2 (x := rI ν 61 0 6 / 24) ?_ ?_
      · rw [ha, ← c6]; rfl
      · unfold X12_many
        rw [inn, bI_s, if_neg n10, ha]
        show some (rI (m0 ν) 61 0 6 / 24, m0 ν) = _
        rw [m0_k (by decide)]
    · have ha : a = nI 8 := i_lit q (by omega)
      have e8 : X12_many a ν = some (rI ν 61 0 7, m0 ν) := by
        unfold X12_many
        rw [inn, bI_s, if_neg n10, ha]
        show some (rI (m0 ν) 61 0 7, m0 ν) = _
        rw [m0_k (by decide)]
      refine figX h c.1 c.2 ?_ e8
      rw [ha]
      show (if rI μ 5 0 6 = 0 then some ((0 : Int32), μ) else some (1, μ)) = _
      rw [c7]
      rcases ok.2.1.2.2.2.2.1 with z | z
      · rw [if_pos z, z]
      · rw [if_neg (by rw [z]; exact n10), z]
    · have ha : a = nI 9 := i_lit q (by omega)
      have e8 : X12_many a ν = some (rI ν 61 0 8, m0 ν) := by
        unfold X12_many
        rw [inn, bI_s, if_neg n10, ha]
        show some (rI (m0 ν) 61 0 8, m0 ν) = _
        rw [m0_k (by decide)]
      refine figX h c.1 c.2 ?_ e8
      rw [ha, ← c8]; rfl
    · have ha : a = nI 10 := i_lit q (by omega)
      obtain ⟨n, hn, n6, hn'⟩ := rg_nI (b := 6) ok.1.1
      refine figX h c.1 c.2 (x := sgm (fun j => rI ν 61 0 (28 + j)) 0 n) ?_ ?_
      · rw [ha]
        show bI (X3_allHeld 0 μ) (fun x1 μ2 => some (x1, μ2)) = _
        unfold X3_allHeld
        have w := sumX_l n6 n 0 fuN 0 μ (by omega) (fuN_6 (by omega)) (c0.trans hn)
        rw [nI_0, Int32.zero_add] at w
        rw [w, bI_s, sgm_c n 0 (fun j _ hj => (hr j (by omega)).2.2)]
      · unfold X12_many
        rw [inn, bI_s, if_neg n10, ha]
        show bI (X12_sumOf (nI 28) (rI (m0 ν) 61 0 0) (m0 ν)) (fun x1 μ2 => some (x1, μ2)) = _
        rw [m0_k (by decide), hn, sumM_e n6 (by omega), bI_s]
        simp only [m0_k (show (61 : Nat) ≠ 13 by decide)]
    · have ha : a = nI 11 := i_lit q (by omega)
      obtain ⟨n, hn, n6, hn'⟩ := rg_nI (b := 6) ok.1.2.2
      refine figX h c.1 c.2 (x := sgm (fun j => rI ν 61 0 (70 + j)) 0 n) ?_ ?_
      · rw [ha]
        show bI (X10_allHad 0 μ) (fun x1 μ2 => some (x1, μ2)) = _
        unfold X10_allHad
        have w := sumH_l n6 n 0 fuN 0 μ (by omega) (fuN_6 (by omega)) (c2.trans hn)
        rw [nI_0, Int32.zero_add] at w
        rw [w, bI_s, sgm_c n 0 (fun j _ hj => (hd j (by omega)).2.2.2)]
      · unfold X12_many
        rw [inn, bI_s, if_neg n10, ha]
        show bI (X12_sumOf (nI 70) (rI (m0 ν) 61 0 2) (m0 ν)) (fun x1 μ2 => some (x1, μ2)) = _
        rw [m0_k (by decide), hn, sumM_e n6 (by omega), bI_s]
        simp only [m0_k (show (61 : Nat) ≠ 13 by decide)]
    · have ha : a = nI 12 := i_lit q (by omega)
      obtain ⟨-, hR', -, -, -⟩ := Rel_i h
      obtain ⟨g, g1, g2, -⟩ := allGround2 (B := B) (μ := μ) (ν := m0 ν) (r := 0) (by rw [m0_c]; exact hR') (by rw [m0_c]; exact ok)
      refine figX h c.1 c.2 (x := g) ?_ ?_
      · rw [ha]
        show bI (X2_allGround 0 μ) (fun x1 μ2 => some (x1, μ2)) = _
        rw [g1, bI_s]
      · unfold X12_many
        rw [inn, bI_s, if_neg n10, ha]
        show bI (X12_allGround (m0 ν)) (fun x1 μ2 => some (x1, μ2)) = _
        rw [g2, bI_s]
  · refine ⟨-1, _, _, ?_, ?_, re_b h 5⟩
    · unfold X11_many
      simp only [lt_i, le_i, t0, show (12 : Int32).toInt = 12 from rfl]
      by_cases d : a.toInt < 0
      · rw [if_pos d]; rfl
      · rw [if_neg d, if_neg (by omega)]; rfl
    · unfold X12_many
      rw [isIn_i, bI_s, show (0 : Int64).toInt = 0 from rfl, show (12 : Int64).toInt = 12 from rfl, if_neg c]; rfl
end C87
