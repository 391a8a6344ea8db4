/-! 77: the class's HOUR, whole; the row's ranges kept -/
section H77
variable {μ : sM} {r n m : Nat} {f P : Nat → Int32} {B : Int}
/-- the row ahead of the mills, at the cells that the mills read -/
theorem rnflow_o (n6 : n ≤ 6) {j : Nat} (h1 : j < 10 ∨ (16 ≤ j ∧ j < 28) ∨ 34 ≤ j) : rnF (flowF f P n) n j = f j := by
  rw [rn_o (by omega) (by omega) (by omega), flow_o (by omega) (by omega)]
theorem tailX_e (h : Hyp B f P n m) (hR : Riv μ r (rnF (flowF f P n) n)) (hp : ∀ j, j < n → rI μ 32 r j = P j) :
    ∃ μ', tailX r μ = some (sgm (gd1 (rnF (flowF f P n) n) P) 0 m, μ') ∧ Riv μ' r (hrF f P n m) ∧ ∀ j, rI μ' 33 r j = rI μ 33 r j := by
  have h' := h
  obtain ⟨ok, hn, hm, n6, m6, h6, hB, hP⟩ := h'
  have nn : (f 0).toInt = n := by rw [hn, nI_toInt (by omega)]
  have mm : (f 1).toInt = m := by rw [hm, nI_toInt (by omega)]
  have F1 : rnF (flowF f P n) n 1 = f 1 := rnflow_o n6 (by omega)
  have hc : rI μ 3 r 0 = nI m := hR.1.2.1.trans (F1.trans hm)
  have hat : ∀ j, j < m → rI μ 25 r j = f (34 + j) ∧ rI μ 26 r j = f (40 + j) ∧ rI μ 27 r j = f (46 + j) := by
    intro j hj
    have z := hR.2.2.2.1 j (by rw [F1]; omega)
    rw [rnflow_o n6 (by omega), rnflow_o n6 (by omega), rnflow_o n6 (by omega)] at z
    exact z
  have hin : ∀ j, j < m → 0 ≤ (f (34 + j)).toInt ∧ (f (34 + j)).toInt < n := fun j hj => by
    have z := ok.2.2.2.2.1 j (by omega)
    omega
  have hb : ∀ j, j < m → inb (rI μ 25 r j) 6 = true := fun j hj => by
    rw [(hat j hj).1]
    have z := hin j hj
    exact inb_of z.1 (by omega)
  have eg : ∀ j, j < m → (grd μ r j ↔ grF (rnF (flowF f P n) n) P j) := by
    intro j hj
    have z := hin j hj
    have zi := ix_eq z.1
    show rI μ 26 r j ≤ rI μ 32 r (ix (rI μ 25 r j)) ↔ rnF (flowF f P n) n (40 + j) ≤ P (ix (rnF (flowF f P n) n (34 + j)))
    rw [rnflow_o n6 (by omega), rnflow_o n6 (by omega), (hat j hj).1, (hat j hj).2.1, hp (ix (f (34 + j))) (by omega)]
  have es : sgm (gr1 μ r) 0 m = sgm (gd1 (rnF (flowF f P n) n) P) 0 m := sgm_c m 0 (fun j _ hj => by
    show (if grd μ r j then (1 : Int32) else 0) = _
    unfold gd1
    simp only [eg j (by omega)])
  unfold tailX
  rw [grind_e m6 hc hb, bI_s, slacken_e, bV_s, es]
  refine ⟨_, rfl, ?_, fun j => ?_⟩
  · obtain ⟨⟨c0, c1, c2, c3, c4, c5, c6, c7, c8, c9⟩, hw, hr, hmm, hd⟩ := hR
    have g0 : ∀ j, (j < 46 ∨ 46 + m ≤ j) → gdF (rnF (flowF f P n) n) P m j = rnF (flowF f P n) n j := by
      intro j hj
      unfold gdF
      rw [if_neg (by omega)]
    have e0 : ∀ j, j ≠ 6 → j ≠ 8 → j ≠ 9 → (j < 46 ∨ 46 + m ≤ j) → hrF f P n m j = rnF (flowF f P n) n j := by
      intro j a b c d
      unfold hrF enF
      rw [if_neg a, if_neg b, if_neg c, g0 j d]
    have t9 : -60 ≤ (f 9).toInt ∧ (f 9).toInt ≤ 60 := h.tu
    have s3 := ok.2.1.1
    unfold rg at s3
    have sb := slk_b (s := f 3) (o := f 8) s3.1 s3.2
    refine ⟨⟨?_, ?_, ?_, ?_, ?_, ?_, ?_, ?_, ?_, ?_⟩, fun j hj => ?_, fun j hj => ?_, fun j hj => ?_, fun j hj => ?_⟩
    · rw [rI_k (by decide), rI_k (by decide), rI_k (by decide), sC_k (by decide), e0 0 (by decide) (by decide) (by decide) (by omega)]; exact c0
    · rw [rI_k (by decide), rI_k (by decide), rI_k (by decide), sC_k (by decide), e0 1 (by decide) (by decide) (by decide) (by omega)]; exact c1
    · rw [rI_k (by decide), rI_k (by decide), rI_k (by decide), sC_k (by decide), e0 2 (by decide) (by decide) (by decide) (by omega)]; exact c2
    · rw [rI_j (by decide), rI_j (by decide), rI_j (by decide), sC_k (by decide), e0 3 (by decide) (by decide) (by decide) (by omega)]; exact c3
    · rw [rI_j (by decide), rI_j (by decide), rI_j (by decide), sC_k (by decide), e0 4 (by decide) (by decide) (by decide) (by omega)]; exact c4
    · rw [rI_j (by decide), rI_j (by decide), rI_j (by decide), sC_k (by decide), e0 5 (by decide) (by decide) (by decide) (by omega)]; exact c5
    · rw [rI_s, rI_j (by decide), rI_j (by decide), sC_k (by decide), c6]
      unfold hrF enF
      rw [if_pos rfl, g0 6 (by omega)]
    · rw [rI_j (by decide), rI_j (by decide), rI_j (by decide), sC_k (by decide), e0 7 (by decide) (by decide) (by decide) (by omega)]; exact c7
    · rw [rI_j (by decide), rI_s, sC_k (by decide), c8]
      unfold hrF enF
      rw [if_neg (by decide), if_pos rfl, g0 8 (by omega)]
    · rw [rI_j (by decide), rI_j (by decide), rI_s, sC_k (by decide), sC_k (by decide), sC_k (by decide), c3, c8, c9]
      unfold hrF enF
      rw [if_neg (by decide), if_neg (by decide), if_pos rfl, g0 9 (by omega), g0 3 (by omega), g0 8 (by omega)]
      rw [rnflow_o n6 (by omega), rnflow_o n6 (by omega), rnflow_o n6 (by omega)]
      exact sl_eq sb.1 (by omega) t9.1 t9.2
    · rw [rL_wI, rL_wI, rL_wI, rL_sC, hw j hj, e0 (10 + j) (by omega) (by omega) (by omega) (by omega)]
    · rw [e0 0 (by decide) (by decide) (by decide) (by omega)] at hj
      have hj6 : j < 6 := by rw [rnflow_o n6 (by omega)] at hj; omega
      rw [rI_k (by decide), rI_k (by decide), rI_k (by decide), sC_k (by decide), rI_k (by decide), rI_k (by decide), rI_k (by decide), sC_k (by decide), rI_k (by decide), rI_k (by decide), rI_k (by decide), sC_k (by decide)]
      rw [e0 (16 + j) (by omega) (by omega) (by omega) (by omega), e0 (22 + j) (by omega) (by omega) (by omega) (by omega), e0 (28 + j) (by omega) (by omega) (by omega) (by omega)]
      exact hr j hj
    · rw [e0 1 (by decide) (by decide) (by decide) (by omega)] at hj
      have hjm : j < m := by rw [F1] at hj; omega
      have hz := hmm j hj
      rw [rI_k (by decide), rI_k (by decide), rI_k (by decide), sC_k (by decide), rI_k (by decide), rI_k (by decide), rI_k (by decide), sC_k (by decide), rI_k (by decide), rI_k (by decide), rI_k (by decide), sC_s]
      rw [e0 (34 + j) (by omega) (by omega) (by omega) (by omega), e0 (40 + j) (by omega) (by omega) (by omega) (by omega)]
      refine ⟨hz.1, hz.2.1, ?_⟩
      have e46 : hrF f P n m (46 + j) = gdF (rnF (flowF f P n) n) P m (46 + j) := by
        unfold hrF enF
        rw [if_neg (by omega), if_neg (by omega), if_neg (by omega)]
      rw [e46, hz.2.2]
      unfold gdF
      rw [show 46 + j - 46 = j by omega]
      by_cases g : grd μ r j
      · rw [if_pos ⟨hjm, g⟩, if_pos (show 46 ≤ 46 + j ∧ 46 + j < 46 + m ∧ grF (rnF (flowF f P n) n) P j from ⟨by omega, by omega, (eg j hjm).mp g⟩)]
      · rw [if_neg (show ¬ (j < m ∧ grd μ r j) from fun z => g z.2), if_neg (show ¬ (46 ≤ 46 + j ∧ 46 + j < 46 + m ∧ grF (rnF (flowF f P n) n) P j) from fun z => g ((eg j hjm).mpr z.2.2))]
    · rw [e0 2 (by decide) (by decide) (by decide) (by omega)] at hj
      rw [rI_k (by decide), rI_k (by decide), rI_k (by decide), sC_k (by decide), rI_k (by decide), rI_k (by decide), rI_k (by decide), sC_k (by decide), rI_k (by decide), rI_k (by decide), rI_k (by decide), sC_k (by decide), rI_k (by decide), rI_k (by decide), rI_k (by decide), sC_k (by decide)]
      rw [e0 (52 + j) (by omega) (by omega) (by omega) (by omega), e0 (58 + j) (by omega) (by omega) (by omega) (by omega), e0 (64 + j) (by omega) (by omega) (by omega) (by omega), e0 (70 + j) (by omega) (by omega) (by omega) (by omega)]
      exact hd j hj
  · rw [rI_k (by decide), rI_k (by decide), rI_k (by decide), sC_k (by decide)]
/-- THE CLASS'S HOUR -/
theorem hourX (h : Hyp B f P n m) (hR : Riv μ r f) : ∃ μ', X4_passHour r μ = some (sgm (gd1 (rnF (flowF f P n) n) P) 0 m, μ') ∧ Riv μ' r (hrF f P n m) ∧ ∀ j, j < n → rI μ' 33 r j = flF (flowF f P n) j := by
  unfold X4_passHour
  obtain ⟨μ2, e2, R2, p2⟩ := runX h hR (fun μ4 => X4_passHour_J25 r μ4)
  rw [e2]
  obtain ⟨μ3, e3, R3, s3, p3⟩ := floodX h R2 p2
  show ∃ μ', X4_passHour_J25 r μ2 = _ ∧ _
  rw [e3]
  obtain ⟨μ', e4, R4, s4⟩ := tailX_e h R3 p3
  exact ⟨μ', e4, R4, fun j hj => by rw [s4]; exact s3 j hj⟩
/-- what an HOUR makes of the row, cell by cell -/
theorem hr_o (h : Hyp B f P n m) {j : Nat} (h1 : j ≠ 6 ∧ j ≠ 8 ∧ j ≠ 9) (h2 : j < 10 ∨ (16 ≤ j ∧ j < 28) ∨ 34 ≤ j) (h3 : j < 46 ∨ 52 ≤ j) : hrF f P n m j = f j := by
  unfold hrF enF
  rw [if_neg h1.1, if_neg h1.2.1, if_neg h1.2.2]
  unfold gdF
  rw [if_neg (by have := h.2.2.2.2.1; omega), rnflow_o h.2.2.2.1 h2]
theorem hr_6 (h : Hyp B f P n m) : hrF f P n m 6 = f 6 + 1 := by
  unfold hrF enF
  rw [if_pos rfl]
  unfold gdF
  rw [if_neg (by omega), rnflow_o h.2.2.2.1 (by omega)]
theorem hr_8 (h : Hyp B f P n m) : hrF f P n m 8 = imx 0 (f 8 - 1) := by
  unfold hrF enF
  rw [if_neg (by decide), if_pos rfl]
  unfold gdF
  rw [if_neg (by omega), rnflow_o h.2.2.2.1 (by omega)]
theorem hr_9 (h : Hyp B f P n m) : hrF f P n m 9 = slM (f 9) (slk (f 3) (f 8)) := by
  unfold hrF enF
  rw [if_neg (by decide), if_neg (by decide), if_pos rfl]
  unfold gdF
  rw [if_neg (by omega), if_neg (by omega), if_neg (by omega), rnflow_o h.2.2.2.1 (by omega), rnflow_o h.2.2.2.1 (by omega), rnflow_o h.2.2.2.1 (by omega)]
theorem hr_w (h : Hyp B f P n m) {j : Nat} (hj : j < 6) : hrF f P n m (10 + j) = rnF (flowF f P n) n (10 + j) := by
  unfold hrF enF
  rw [if_neg (by omega), if_neg (by omega), if_neg (by omega)]
  unfold gdF
  rw [if_neg (by omega)]
theorem hr_h (h : Hyp B f P n m) {j : Nat} (hj : j < n) : hrF f P n m (28 + j) = flowF f P n (28 + j) + (drF (flowF f P n) - flF (flowF f P n) j) := by
  unfold hrF enF
  have n6 := h.2.2.2.1
  rw [if_neg (by omega), if_neg (by omega), if_neg (by omega)]
  unfold gdF
  rw [if_neg (by omega)]
  unfold rnF
  rw [if_neg (by omega), if_neg (by omega), if_pos (by omega), show 28 + j - 28 = j by omega]
theorem hr_g (h : Hyp B f P n m) {j : Nat} (hj : j < 6) : hrF f P n m (46 + j) = f (46 + j) ∨ hrF f P n m (46 + j) = f (46 + j) + 1 := by
  unfold hrF enF
  have n6 := h.2.2.2.1
  rw [if_neg (by omega), if_neg (by omega), if_neg (by omega)]
  unfold gdF
  by_cases g : 46 ≤ 46 + j ∧ 46 + j < 46 + m ∧ grF (rnF (flowF f P n) n) P (46 + j - 46)
  · rw [if_pos g, rnflow_o n6 (by omega)]
    exact Or.inr rfl
  · rw [if_neg g, rnflow_o n6 (by omega)]
    exact Or.inl rfl
/-- an HOUR keeps the ranges -/
theorem OkR_hr (h : Hyp B f P n m) : OkR B (hrF f P n m) := by
  have h' := h
  obtain ⟨ok, hn, hm, n6, m6, h6, hB, hP⟩ := h'
  have nn : (f 0).toInt = n := by rw [hn, nI_toInt (by omega)]
  have mm : (f 1).toInt = m := by rw [hm, nI_toInt (by omega)]
  obtain ⟨⟨a0, a1, a2⟩, ⟨b3, b4, b5, b6, b7, b8, b9⟩, hw, hr, hml, hwd⟩ := ok
  have e0 : hrF f P n m 0 = f 0 := hr_o h (by decide) (by omega) (by omega)
  have e1 : hrF f P n m 1 = f 1 := hr_o h (by decide) (by omega) (by omega)
  have e2 : hrF f P n m 2 = f 2 := hr_o h (by decide) (by omega) (by omega)
  have e3 : hrF f P n m 3 = f 3 := hr_o h (by decide) (by omega) (by omega)
  have e4 : hrF f P n m 4 = f 4 := hr_o h (by decide) (by omega) (by omega)
  have e5 : hrF f P n m 5 = f 5 := hr_o h (by decide) (by omega) (by omega)
  have e7 : hrF f P n m 7 = f 7 := hr_o h (by decide) (by omega) (by omega)
  unfold rg at b6 b8 b3
  have e6 : (hrF f P n m 6).toInt = (f 6).toInt + 1 := by
    rw [hr_6 h, tA (by rw [t1]; omega) (by rw [t1]; omega), t1]
  have e8 : (hrF f P n m 8).toInt = max 0 ((f 8).toInt - 1) := by
    rw [hr_8 h, tmx, t0, tS (by rw [t1]; omega) (by rw [t1]; omega), t1]
  have sb := slk_b (s := f 3) (o := f 8) b3.1 b3.2
  have t9 := h.tu
  have e9 : -60 ≤ (hrF f P n m 9).toInt ∧ (hrF f P n m 9).toInt ≤ 60 := by
    rw [hr_9 h]
    unfold slM
    by_cases c : f 9 ≤ 0
    · rw [if_pos c]
      rw [Int32.le_iff_toInt_le, t0] at c
      rw [tmn, t0, tA (by omega) (by omega)]
      omega
    · rw [if_neg c]
      rw [Int32.le_iff_toInt_le, t0] at c
      rw [tmx, t0, tS (by omega) (by omega)]
      omega
  have hin : ∀ j, j < n → 0 ≤ (P j).toInt ∧ (P j).toInt ≤ 99 := fun j hj => ⟨(h.pb hj).1, (h.pb hj).2.1⟩
  have db := dr_b h
  have sf := sgm_b (g := flF (flowF f P n)) (M := 1197) (by omega) n 0 n6 (by omega) (fun j _ hj => fl_b h (by omega))
  have sd := sgm_b (g := fun _ => drF (flowF f P n)) (M := 99) (by omega) n 0 n6 (by omega) (fun _ _ _ => db)
  refine ⟨⟨by rw [e0]; exact a0, by rw [e1]; exact a1, by rw [e2]; exact a2⟩, ⟨by rw [e3]; exact b3, by rw [e4]; exact b4, by rw [e5]; exact b5, ?_, by rw [e7]; exact b7, ?_, e9⟩, fun j hj => ?_, fun j hj => ?_, fun j hj => ?_, fun j hj => ?_⟩
  · unfold rg
    omega
  · unfold rg
    omega
  · have w0 := hw j hj
    unfold rg at w0 ⊢
    have wb := h.wat hj
    rw [e6, hr_w h hj]
    have fw : -1200000000 ≤ (flowF f P n (10 + j)).toInt + 0 ∧ (flowF f P n (10 + j)).toInt ≤ (f (10 + j)).toInt + 99 ∧ (f (10 + j)).toInt ≤ (flowF f P n (10 + j)).toInt + 60 ∧ (j = 3 ∨ j = 5 → flowF f P n (10 + j) = f (10 + j)) := by
      by_cases z : j = 3 ∨ j = 5
      · have e : flowF f P n (10 + j) = f (10 + j) := flow_o (by omega) (by omega)
        rw [e]
        exact ⟨by omega, by omega, by omega, fun _ => rfl⟩
      · have q : ∃ y : Int32, -60 ≤ y.toInt ∧ y.toInt ≤ 99 ∧ (flowF f P n (10 + j) = f (10 + j) ∨ flowF f P n (10 + j) = f (10 + j) + y) ∧ 0 ≤ y.toInt := by
          unfold flowF
          by_cases t : f 9 < 0
          · rw [if_pos t]
            rw [Int32.lt_iff_toInt_lt, t0] at t
            unfold upF
            by_cases c2 : 10 + j = 12
            · refine ⟨if n = 0 then -(f 9) else P 0, ?_, ?_, Or.inr ?_, ?_⟩
              · by_cases zz : n = 0
                · rw [if_pos zz, tN (by omega)]; omega
                · rw [if_neg zz]; have := hin 0 (by omega); omega
              · by_cases zz : n = 0
                · rw [if_pos zz, tN (by omega)]; omega
                · rw [if_neg zz]; have := hin 0 (by omega); omega
              · rw [if_pos c2, c2]
              · by_cases zz : n = 0
                · rw [if_pos zz, tN (by omega)]; omega
                · rw [if_neg zz]; have := hin 0 (by omega); omega
            · by_cases c1 : 10 + j = 11
              · refine ⟨-(f 9), by rw [tN (by omega)]; omega, by rw [tN (by omega)]; omega, Or.inr ?_, by rw [tN (by omega)]; omega⟩
                rw [if_neg c2, if_pos c1, c1]
              · refine ⟨0, by rw [t0]; omega, by rw [t0]; omega, Or.inl ?_, by rw [t0]; omega⟩
                rw [if_neg c2, if_neg c1, if_neg (by omega)]
          · rw [if_neg t]
            rw [Int32.lt_iff_toInt_lt, t0] at t
            unfold dnF
            by_cases c2 : 10 + j = 10
            · refine ⟨if n = 0 then f 9 else P (n - 1), ?_, ?_, Or.inr ?_, ?_⟩
              · by_cases zz : n = 0
                · rw [if_pos zz]; omega
                · rw [if_neg zz]; have := hin (n - 1) (by omega); omega
              · by_cases zz : n = 0
                · rw [if_pos zz]; omega
                · rw [if_neg zz]; have := hin (n - 1) (by omega); omega
              · rw [if_pos c2, c2]
              · by_cases zz : n = 0
                · rw [if_pos zz]; omega
                · rw [if_neg zz]; have := hin (n - 1) (by omega); omega
            · by_cases c1 : 10 + j = 14
              · refine ⟨f 9, by omega, by omega, Or.inr ?_, by omega⟩
                rw [if_neg c2, if_pos c1, c1]
              · refine ⟨0, by rw [t0]; omega, by rw [t0]; omega, Or.inl ?_, by rw [t0]; omega⟩
                rw [if_neg c2, if_neg c1, if_neg (by omega)]
        obtain ⟨y, y1, y2, y3, y4⟩ := q
        rcases y3 with y3 | y3
        · rw [y3]
          exact ⟨by omega, by omega, by omega, fun c => absurd c z⟩
        · rw [y3, tA (by omega) (by omega)]
          exact ⟨by omega, by omega, by omega, fun c => absurd c z⟩
    by_cases c5 : 10 + j = 15
    · have e : rnF (flowF f P n) n (10 + j) = f 15 + sgm (fun _ => drF (flowF f P n)) 0 n := by
        unfold rnF
        rw [if_pos c5, flow_o (by omega) (by omega)]
      rw [c5] at w0 wb
      rw [e, tA (by omega) (by omega)]
      omega
    · by_cases c3 : 10 + j = 13
      · have e : rnF (flowF f P n) n (10 + j) = f 13 + sgm (flF (flowF f P n)) 0 n := by
          unfold rnF
          rw [if_neg c5, if_pos c3, flow_o (by omega) (by omega)]
        rw [c3] at w0 wb
        rw [e, tA (by omega) (by omega)]
        omega
      · rw [rn_o c3 c5 (by omega)]
        obtain ⟨f1, f2, f3, -⟩ := fw
        omega
  · rw [e0] at hj
    have hjn : j < n := by omega
    have hz := hr j hj
    rw [hr_o h (j := 16 + j) (by omega) (by omega) (by omega), hr_o h (j := 22 + j) (by omega) (by omega) (by omega)]
    refine ⟨hz.1, hz.2.1, ?_⟩
    have fb := flow_b h hjn
    have flb := fl_b h hjn
    have hb := hz.1
    unfold rg at hb
    have ef : (flF (flowF f P n) j).toInt = max 0 ((flowF f P n (28 + j)).toInt + (drF (flowF f P n)).toInt - (f (16 + j)).toInt) := by
      unfold flF
      rw [tmx, t0, flow_o (f := f) (j := 16 + j) (by omega) (by omega), tS (by rw [tA (by omega) (by omega)]; omega) (by rw [tA (by omega) (by omega)]; omega), tA (by omega) (by omega)]
    rw [hr_h h hjn, tA (by rw [tS (by omega) (by omega)]; omega) (by rw [tS (by omega) (by omega)]; omega), tS (by omega) (by omega), ef]
    omega
  · rw [e1] at hj
    have hz := hml j hj
    rw [hr_o h (j := 34 + j) (by omega) (by omega) (by omega), hr_o h (j := 40 + j) (by omega) (by omega) (by omega), e0, e6]
    refine ⟨hz.1, hz.2.1, hz.2.2.1, ?_⟩
    rcases hr_g h (j := j) (by omega) with g | g
    · rw [g]
      omega
    · rw [g, tA (by rw [t1]; omega) (by rw [t1]; omega), t1]
      omega
  · rw [e2] at hj
    unfold rg at a2
    rw [hr_o h (j := 52 + j) (by omega) (by omega) (by omega), hr_o h (j := 58 + j) (by omega) (by omega) (by omega)]
    exact hwd j hj
end H77
