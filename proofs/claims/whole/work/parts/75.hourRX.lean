/-! 75: the class's HOUR, stage by stage -/
theorem Riv_of {μ μ' : sM} {r : Nat} {f : Nat → Int32} (hI : ∀ k j, k ≠ 32 → k ≠ 33 → rI μ' k r j = rI μ k r j) (hL : ∀ j, rL μ' 34 r j = rL μ 34 r j) (h : Riv μ r f) : Riv μ' r f := by
  obtain ⟨⟨c0, c1, c2, c3, c4, c5, c6, c7, c8, c9⟩, hw, hr, hm, hd⟩ := h
  refine ⟨⟨?_, ?_, ?_, ?_, ?_, ?_, ?_, ?_, ?_, ?_⟩, fun j hj => by rw [hL]; exact hw j hj, fun j hj => ?_, fun j hj => ?_, fun j hj => ?_⟩
  · rw [hI _ _ (by decide) (by decide)]; exact c0
  · rw [hI _ _ (by decide) (by decide)]; exact c1
  · rw [hI _ _ (by decide) (by decide)]; exact c2
  · rw [hI _ _ (by decide) (by decide)]; exact c3
  · rw [hI _ _ (by decide) (by decide)]; exact c4
  · rw [hI _ _ (by decide) (by decide)]; exact c5
  · rw [hI _ _ (by decide) (by decide)]; exact c6
  · rw [hI _ _ (by decide) (by decide)]; exact c7
  · rw [hI _ _ (by decide) (by decide)]; exact c8
  · rw [hI _ _ (by decide) (by decide)]; exact c9
  · rw [hI _ _ (by decide) (by decide), hI _ _ (by decide) (by decide), hI _ _ (by decide) (by decide)]; exact hr j hj
  · rw [hI _ _ (by decide) (by decide), hI _ _ (by decide) (by decide), hI _ _ (by decide) (by decide)]; exact hm j hj
  · rw [hI _ _ (by decide) (by decide), hI _ _ (by decide) (by decide), hI _ _ (by decide) (by decide), hI _ _ (by decide) (by decide)]; exact hd j hj
/-- a row that differs from f in holds and waters alone -/
theorem Riv_hw {μ μ' : sM} {r : Nat} {f F : Nat → Int32} (hI : ∀ k j, k ≠ 31 → k ≠ 32 → k ≠ 33 → rI μ' k r j = rI μ k r j) (hF : ∀ j, (j < 10 ∨ 16 ≤ j) → (j < 28 ∨ 34 ≤ j) → F j = f j)
    (hw : ∀ j, j < 6 → rL μ' 34 r j = (F (10 + j)).toInt64) (hh : ∀ j : Nat, (j : Int) < (f 0).toInt → rI μ' 31 r j = F (28 + j)) (n6 : (f 0).toInt ≤ 6) (h : Riv μ r f) : Riv μ' r F := by
  obtain ⟨⟨c0, c1, c2, c3, c4, c5, c6, c7, c8, c9⟩, -, hr, hm, hd⟩ := h
  have f0 : F 0 = f 0 := hF 0 (by omega) (by omega)
  have f1 : F 1 = f 1 := hF 1 (by omega) (by omega)
  have f2 : F 2 = f 2 := hF 2 (by omega) (by omega)
  refine ⟨⟨?_, ?_, ?_, ?_, ?_, ?_, ?_, ?_, ?_, ?_⟩, hw, fun j hj => ?_, fun j hj => ?_, fun j hj => ?_⟩
  · rw [hI _ _ (by decide) (by decide) (by decide), f0]; exact c0
  · rw [hI _ _ (by decide) (by decide) (by decide), f1]; exact c1
  · rw [hI _ _ (by decide) (by decide) (by decide), f2]; exact c2
  · rw [hI _ _ (by decide) (by decide) (by decide), hF 3 (by omega) (by omega)]; exact c3
  · rw [hI _ _ (by decide) (by decide) (by decide), hF 4 (by omega) (by omega)]; exact c4
  · rw [hI _ _ (by decide) (by decide) (by decide), hF 5 (by omega) (by omega)]; exact c5
  · rw [hI _ _ (by decide) (by decide) (by decide), hF 6 (by omega) (by omega)]; exact c6
  · rw [hI _ _ (by decide) (by decide) (by decide), hF 7 (by omega) (by omega)]; exact c7
  · rw [hI _ _ (by decide) (by decide) (by decide), hF 8 (by omega) (by omega)]; exact c8
  · rw [hI _ _ (by decide) (by decide) (by decide), hF 9 (by omega) (by omega)]; exact c9
  · rw [f0] at hj
    rw [hI _ _ (by decide) (by decide) (by decide), hI _ _ (by decide) (by decide) (by decide), hF (16 + j) (by omega) (by omega), hF (22 + j) (by omega) (by omega)]
    exact ⟨(hr j hj).1, (hr j hj).2.1, hh j hj⟩
  · rw [f1] at hj
    rw [hI _ _ (by decide) (by decide) (by decide), hI _ _ (by decide) (by decide) (by decide), hI _ _ (by decide) (by decide) (by decide), hF (34 + j) (by omega) (by omega), hF (40 + j) (by omega) (by omega), hF (46 + j) (by omega) (by omega)]
    exact hm j hj
  · rw [f2] at hj
    rw [hI _ _ (by decide) (by decide) (by decide), hI _ _ (by decide) (by decide) (by decide), hI _ _ (by decide) (by decide) (by decide), hI _ _ (by decide) (by decide) (by decide), hF (52 + j) (by omega) (by omega), hF (58 + j) (by omega) (by omega), hF (64 + j) (by omega) (by omega), hF (70 + j) (by omega) (by omega)]
    exact hd j hj
section H75
variable {μ : sM} {r n m : Nat} {f P : Nat → Int32} {B : Int}
theorem runX {β : Type} (h : Hyp B f P n m) (hR : Riv μ r f) (K : sM → Option β) : ∃ μ2, (bV (X3_letPass r μ) fun μ1 => if rI μ1 5 r 0 < 0 then bV (X4_runUp r μ1) K else bV (X4_runDown r μ1) K) = K μ2 ∧ Riv μ2 r (flowF f P n) ∧ ∀ j, j < n → rI μ2 32 r j = P j := by
  have h' := h
  obtain ⟨ok, hn, hm, n6, m6, h6, hB, hP⟩ := h'
  have hc : rI μ 4 r 0 = nI n := hR.1.1.trans hn
  have nn : (f 0).toInt = n := by rw [hn, nI_toInt (by omega)]
  rw [letPass_e n6 hc, bV_s]
  generalize hμ1 : sC μ 32 r _ = μ1
  have r1 : ∀ k j, k ≠ 32 → rI μ1 k r j = rI μ k r j := fun k j hk => by rw [← hμ1, sC_k hk]
  have rp : ∀ j, j < n → rI μ1 32 r j = P j := by
    intro j hj
    have hrj := hR.2.2.1 j (by omega)
    rw [← hμ1, sC_s, if_pos hj, hP j hj, hrj.2.1, hrj.2.2, imn_c]
    rfl
  have rl : ∀ j, rL μ1 34 r j = rL μ 34 r j := fun j => by rw [← hμ1]; rfl
  have hR1 : Riv μ1 r f := Riv_of (fun k j hk _ => r1 k j hk) rl hR
  have hc1 : rI μ1 4 r 0 = nI n := hR1.1.1.trans hn
  have t9 : rI μ1 5 r 0 = f 9 := hR1.1.2.2.2.2.2.2.2.2.2
  have tt := h.tu
  rw [t9]
  by_cases t : f 9 < 0
  · rw [if_pos t, runUp_e n6 hc1, bV_s]
    refine ⟨_, rfl, ?_, fun j hj => ?_⟩
    · have eF : flowF f P n = upF f P n := if_pos t
      refine Riv_hw (f := f) (μ := μ1) (fun k j a b c => ?_) (fun j a b => ?_) (fun j hj => ?_) (fun j hj => ?_) (by omega) hR1
      · rw [rI_wL, rI_wL, sC_k a]
      · exact flow_o (by omega) (by omega)
      · rw [eF]
        have w0 := h.wat hj
        have wj := hR1.2.1 j hj
        rcases (show j = 0 ∨ j = 1 ∨ j = 2 ∨ j = 3 ∨ j = 4 ∨ j = 5 by omega) with rfl | rfl | rfl | rfl | rfl | rfl
        · rw [rL_j (by decide), rL_j (by decide)]
          exact wj
        · rw [rL_j (by decide), rL_s, t9, wj, wat_s (by omega) (by omega)]
          rfl
        · rw [rL_s, wj, t9]
          have e2 : upF f P n (10 + 2) = f 12 + (if n = 0 then -(f 9) else rI μ1 32 r 0) := by
            unfold upF
            rw [if_pos (by decide)]
            by_cases z : n = 0
            · rw [if_pos z, if_pos z]
            · rw [if_neg z, if_neg z, rp 0 (by omega)]
          rw [e2]
          refine wat_a ?_ ?_
          · by_cases z : n = 0
            · rw [if_pos z, tN (by omega)]; omega
            · rw [if_neg z, rp 0 (by omega)]
              have := h.pb (j := 0) (by omega)
              omega
          · by_cases z : n = 0
            · rw [if_pos z, tN (by omega)]; omega
            · rw [if_neg z, rp 0 (by omega)]
              have := h.pb (j := 0) (by omega)
              omega
        · rw [rL_j (by decide), rL_j (by decide)]
          exact wj
        · rw [rL_j (by decide), rL_j (by decide)]
          exact wj
        · rw [rL_j (by decide), rL_j (by decide)]
          exact wj
      · have hj' : j < n := by omega
        rw [rI_wL, rI_wL, sC_s, if_pos hj', flow_in h hj', if_pos t, t9, (hR1.2.2.1 j hj).2.2, rp j hj']
        by_cases z : j + 1 = n
        · rw [if_pos z, if_pos z]
        · rw [if_neg z, if_neg z, rp (j + 1) (by omega)]
    · rw [rI_wL, rI_wL, sC_k (by decide)]
      exact rp j hj
  · rw [if_neg t, runDown_e n6 hc1, bV_s]
    refine ⟨_, rfl, ?_, fun j hj => ?_⟩
    · have eF : flowF f P n = dnF f P n := if_neg t
      refine Riv_hw (f := f) (μ := μ1) (fun k j a b c => ?_) (fun j a b => ?_) (fun j hj => ?_) (fun j hj => ?_) (by omega) hR1
      · rw [rI_wL, rI_wL, sC_k a]
      · exact flow_o (by omega) (by omega)
      · rw [eF]
        have w0 := h.wat hj
        have wj := hR1.2.1 j hj
        rcases (show j = 0 ∨ j = 1 ∨ j = 2 ∨ j = 3 ∨ j = 4 ∨ j = 5 by omega) with rfl | rfl | rfl | rfl | rfl | rfl
        · rw [rL_s, wj, t9]
          have e2 : dnF f P n (10 + 0) = f 10 + (if n = 0 then f 9 else rI μ1 32 r (n - 1)) := by
            unfold dnF
            rw [if_pos (by decide)]
            by_cases z : n = 0
            · rw [if_pos z, if_pos z]
            · rw [if_neg z, if_neg z, rp (n - 1) (by omega)]
          rw [e2]
          refine wat_a ?_ ?_
          · by_cases z : n = 0
            · rw [if_pos z]; omega
            · rw [if_neg z, rp (n - 1) (by omega)]
              have := h.pb (j := n - 1) (by omega)
              omega
          · by_cases z : n = 0
            · rw [if_pos z]; omega
            · rw [if_neg z, rp (n - 1) (by omega)]
              have := h.pb (j := n - 1) (by omega)
              omega
        · rw [rL_j (by decide), rL_j (by decide)]
          exact wj
        · rw [rL_j (by decide), rL_j (by decide)]
          exact wj
        · rw [rL_j (by decide), rL_j (by decide)]
          exact wj
        · rw [rL_j (by decide), rL_s, t9, wj, wat_a (by omega) (by omega)]
          rfl
        · rw [rL_j (by decide), rL_j (by decide)]
          exact wj
      · have hj' : j < n := by omega
        rw [rI_wL, rI_wL, sC_s, if_pos hj', flow_in h hj', if_neg t, t9, (hR1.2.2.1 j hj).2.2, rp j hj']
        by_cases z : j = 0
        · rw [if_pos z, if_pos z]
        · rw [if_neg z, if_neg z, rp (j - 1) (by omega)]
    · rw [rI_wL, rI_wL, sC_k (by decide)]
      exact rp j hj
end H75
