/-! 98o: one thing more in a RIVER that is read -/
section C98o
variable {μ ν : sM}
abbrev adRx (μ : sM) (k P G H : Nat) : sM := wI (wI (wI (wI (wL μ 28 4 k (rL μ 6 0 2)) 29 4 k (nI P)) 30 4 k (nI G)) 31 4 k (nI H)) 4 4 0 (nI (k + 1))
abbrev adRm (ν : sM) (k P G H : Nat) : sM := wI (wI (wI (wI ν 61 0 (1408 + k) (nI P)) 61 0 (1414 + k) (nI G)) 61 0 (1420 + k) (nI H)) 61 0 1392 (nI (k + 1))
theorem addR {k P G H : Nat} (hR : RV μ ν) (x0 : rI μ 4 4 0 = nI k) (y0 : rI ν 61 0 1392 = nI k) (k6 : k < 6) (P9 : P ≤ 999) (G9 : G ≤ 99) (H9 : H ≤ P) (hn : nmR (rL μ 6 0 2) (rL ν 64 0 (72 + k))) : X3_add 4 (rL μ 6 0 2) (nI P) (nI G) (nI H) μ = some (adRx μ k P G H) ∧ RV (adRx μ k P G H) (adRm ν k P G H) := by
  constructor
  · unfold X3_add
    rw [x0, if_neg (show ¬ (6 : Int32) ≤ nI k from nI_ge (b := 6) k6 (by omega)), if_pos (inb_nI k6 (by omega)), if_pos (inb_nI k6 (by omega)), if_pos (inb_nI k6 (by omega)), if_pos (inb_nI k6 (by omega)), ix_nI (by omega), nI_1]
  · obtain ⟨⟨hV, ok, hN, h6⟩, ⟨p1, p2, p3⟩, hz⟩ := hR
    obtain ⟨f, hf⟩ : ∃ f : Nat → Int32, f = fun j => rI ν 61 0 (348 * 4 + j) := ⟨_, rfl⟩
    rw [← hf] at hV ok
    obtain ⟨g, hg⟩ : ∃ g : Nat → Int32, g = fun j => rI (adRm ν k P G H) 61 0 (348 * 4 + j) := ⟨_, rfl⟩
    have fz : ∀ j, (46 ≤ j ∧ j < 52) ∨ (64 ≤ j ∧ j < 78) → f j = 0 := fun j hj => by rw [hf]; exact hz j hj
    obtain ⟨⟨c0', c1', c2', c3', c4', c5', c6', c7', c8', c9'⟩, hw, hr, hm, hd⟩ := hV
    obtain ⟨⟨a0, a1, a2⟩, ⟨b3, b4, b5, b6, b7, b8, b9⟩, ow, orr, om, od⟩ := ok
    have tk := nI_toInt (n := k) (by omega)
    have tk1 := nI_toInt (n := k + 1) (by omega)
    have yk : (f 0).toInt = (k : Int) := by rw [hf]; show (rI ν 61 0 1392).toInt = _; rw [y0]; exact tk
    have xN : ∀ kk j, kk ≠ 4 → kk ≠ 29 → kk ≠ 30 → kk ≠ 31 → rI (adRx μ k P G H) kk 4 j = rI μ kk 4 j := fun kk j q0 q1 q2 q3 => by
      rw [rI_k q0, rI_k q3, rI_k q2, rI_k q1, rI_wL]
    have xL : ∀ kk j, kk ≠ 28 ∨ j ≠ k → rL (adRx μ k P G H) kk 4 j = rL μ kk 4 j := fun kk j q => by
      show rL (wL μ 28 4 k (rL μ 6 0 2)) kk 4 j = _
      rcases q with q | q
      · exact rL_k q
      · exact rL_j q
    have gN : ∀ j, j ≠ 0 → j ≠ 16 + k → j ≠ 22 + k → j ≠ 28 + k → g j = f j := fun j q0 q1 q2 q3 => by
      rw [hg, hf]
      show rI (adRm ν k P G H) 61 0 (348 * 4 + j) = rI ν 61 0 (348 * 4 + j)
      rw [rI_j (by omega), rI_j (by omega), rI_j (by omega), rI_j (by omega)]
    have gS : g 0 = nI (k + 1) := by rw [hg]; exact rI_s
    have g16 : g (16 + k) = nI P := by
      rw [hg]
      show rI (adRm ν k P G H) 61 0 (348 * 4 + (16 + k)) = nI P
      rw [show 348 * 4 + (16 + k) = 1408 + k by omega, rI_j (by omega), rI_j (by omega), rI_j (by omega), rI_s]
    have g22 : g (22 + k) = nI G := by
      rw [hg]
      show rI (adRm ν k P G H) 61 0 (348 * 4 + (22 + k)) = nI G
      rw [show 348 * 4 + (22 + k) = 1414 + k by omega, rI_j (by omega), rI_j (by omega), rI_s]
    have g28 : g (28 + k) = nI H := by
      rw [hg]
      show rI (adRm ν k P G H) 61 0 (348 * 4 + (28 + k)) = nI H
      rw [show 348 * 4 + (28 + k) = 1420 + k by omega, rI_j (by omega), rI_s]
    have x29 : rI (adRx μ k P G H) 29 4 k = nI P := by
      rw [rI_k (by decide), rI_k (by decide), rI_k (by decide), rI_s]
    have x29o : ∀ j, j ≠ k → rI (adRx μ k P G H) 29 4 j = rI μ 29 4 j := fun j q => by
      rw [rI_k (by decide), rI_k (by decide), rI_k (by decide), rI_j q, rI_wL]
    have x30 : rI (adRx μ k P G H) 30 4 k = nI G := by
      rw [rI_k (by decide), rI_k (by decide), rI_s]
    have x30o : ∀ j, j ≠ k → rI (adRx μ k P G H) 30 4 j = rI μ 30 4 j := fun j q => by
      rw [rI_k (by decide), rI_k (by decide), rI_j q, rI_k (by decide), rI_wL]
    have x31 : rI (adRx μ k P G H) 31 4 k = nI H := by
      rw [rI_k (by decide), rI_s]
    have x31o : ∀ j, j ≠ k → rI (adRx μ k P G H) 31 4 j = rI μ 31 4 j := fun j q => by
      rw [rI_k (by decide), rI_j q, rI_k (by decide), rI_k (by decide), rI_wL]
    suffices hh : (Riv (adRx μ k P G H) 4 g ∧ OkR 0 g ∧ RelN (adRx μ k P G H) 4 (adRm ν k P G H) 4 ∧ (g 6).toInt ≤ 9999) ∧ (rI (adRx μ k P G H) 6 0 3 = rI (adRm ν k P G H) 13 0 25 ∧ rR (adRx μ k P G H) 6 0 0 = 1 ∧ rR (adRx μ k P G H) 6 0 1 = 5) ∧ ∀ j, (46 ≤ j ∧ j < 52) ∨ (64 ≤ j ∧ j < 78) → g j = 0 by
      rw [hg] at hh
      exact hh
    refine ⟨⟨⟨⟨?_, ?_, ?_, ?_, ?_, ?_, ?_, ?_, ?_, ?_⟩, fun j hj => ?_, fun j hj => ?_, fun j hj => ?_, fun j hj => ?_⟩, ⟨⟨?_, ?_, ?_⟩, ⟨?_, ?_, ?_, ?_, ?_, ?_, ?_⟩, fun j hj => ?_, fun j hj => ?_, fun j hj => ?_, fun j hj => ?_⟩, ⟨fun j hj => ?_, fun j hj => ?_, fun j hj => ?_⟩, ?_⟩, ⟨?_, ?_, ?_⟩, fun j hj => ?_⟩
    · rw [rI_s]; exact gS.symm
    · rw [xN 3 0 (by decide) (by decide) (by decide) (by decide)]; exact c1'.trans (gN 1 (by omega) (by omega) (by omega) (by omega)).symm
    · rw [xN 11 0 (by decide) (by decide) (by decide) (by decide)]; exact c2'.trans (gN 2 (by omega) (by omega) (by omega) (by omega)).symm
    · rw [xN 5 1 (by decide) (by decide) (by decide) (by decide)]; exact c3'.trans (gN 3 (by omega) (by omega) (by omega) (by omega)).symm
    · rw [xN 5 2 (by decide) (by decide) (by decide) (by decide)]; exact c4'.trans (gN 4 (by omega) (by omega) (by omega) (by omega)).symm
    · rw [xN 5 3 (by decide) (by decide) (by decide) (by decide)]; exact c5'.trans (gN 5 (by omega) (by omega) (by omega) (by omega)).symm
    · rw [xN 5 4 (by decide) (by decide) (by decide) (by decide)]; exact c6'.trans (gN 6 (by omega) (by omega) (by omega) (by omega)).symm
    · rw [xN 5 6 (by decide) (by decide) (by decide) (by decide)]; exact c7'.trans (gN 7 (by omega) (by omega) (by omega) (by omega)).symm
    · rw [xN 5 5 (by decide) (by decide) (by decide) (by decide)]; exact c8'.trans (gN 8 (by omega) (by omega) (by omega) (by omega)).symm
    · rw [xN 5 0 (by decide) (by decide) (by decide) (by decide)]; exact c9'.trans (gN 9 (by omega) (by omega) (by omega) (by omega)).symm
    · rw [xL 34 j (Or.inl (by decide)), gN (10 + j) (by omega) (by omega) (by omega) (by omega)]; exact hw j hj
    · rw [gS] at hj
      by_cases e : j = k
      · subst e
        rw [x29, x30, x31, g16, g22, g28]
        exact ⟨rfl, rfl, rfl⟩
      · rw [x29o j e, x30o j e, x31o j e, gN (16 + j) (by omega) (by omega) (by omega) (by omega), gN (22 + j) (by omega) (by omega) (by omega) (by omega), gN (28 + j) (by omega) (by omega) (by omega) (by omega)]
        exact hr j (by rw [yk]; omega)
    · rw [gN 1 (by omega) (by omega) (by omega) (by omega)] at hj
      have l := a1.2
      rw [xN 25 j (by decide) (by decide) (by decide) (by decide), xN 26 j (by decide) (by decide) (by decide) (by decide), xN 27 j (by decide) (by decide) (by decide) (by decide), gN (34 + j) (by omega) (by omega) (by omega) (by omega), gN (40 + j) (by omega) (by omega) (by omega) (by omega), gN (46 + j) (by omega) (by omega) (by omega) (by omega)]
      exact hm j hj
    · rw [gN 2 (by omega) (by omega) (by omega) (by omega)] at hj
      have l := a2.2
      rw [xN 51 j (by decide) (by decide) (by decide) (by decide), xN 52 j (by decide) (by decide) (by decide) (by decide), xN 53 j (by decide) (by decide) (by decide) (by decide), xN 54 j (by decide) (by decide) (by decide) (by decide), gN (52 + j) (by omega) (by omega) (by omega) (by omega), gN (58 + j) (by omega) (by omega) (by omega) (by omega), gN (64 + j) (by omega) (by omega) (by omega) (by omega), gN (70 + j) (by omega) (by omega) (by omega) (by omega)]
      exact hd j hj
    · rw [gS]; unfold rg; omega
    · rw [gN 1 (by omega) (by omega) (by omega) (by omega)]; exact a1
    · rw [gN 2 (by omega) (by omega) (by omega) (by omega)]; exact a2
    · rw [gN 3 (by omega) (by omega) (by omega) (by omega)]; exact b3
    · rw [gN 4 (by omega) (by omega) (by omega) (by omega)]; exact b4
    · rw [gN 5 (by omega) (by omega) (by omega) (by omega)]; exact b5
    · rw [gN 6 (by omega) (by omega) (by omega) (by omega)]; exact b6
    · rw [gN 7 (by omega) (by omega) (by omega) (by omega)]; exact b7
    · rw [gN 8 (by omega) (by omega) (by omega) (by omega)]; exact b8
    · rw [gN 9 (by omega) (by omega) (by omega) (by omega)]; exact b9
    · rw [gN (10 + j) (by omega) (by omega) (by omega) (by omega), gN 6 (by omega) (by omega) (by omega) (by omega)]; exact ow j hj
    · rw [gS] at hj
      have tP := nI_toInt (n := P) (by omega)
      have tG := nI_toInt (n := G) (by omega)
      have tH := nI_toInt (n := H) (by omega)
      by_cases e : j = k
      · subst e
        rw [g16, g22, g28]
        unfold rg
        omega
      · rw [gN (16 + j) (by omega) (by omega) (by omega) (by omega), gN (22 + j) (by omega) (by omega) (by omega) (by omega), gN (28 + j) (by omega) (by omega) (by omega) (by omega)]
        exact orr j (by rw [yk]; omega)
    · rw [gN 1 (by omega) (by omega) (by omega) (by omega)] at hj
      have l := a1.2
      have z := om j hj
      rw [gN (34 + j) (by omega) (by omega) (by omega) (by omega), gN (40 + j) (by omega) (by omega) (by omega) (by omega), gN (46 + j) (by omega) (by omega) (by omega) (by omega), gN 6 (by omega) (by omega) (by omega) (by omega), gS, tk1]
      rw [yk] at z
      exact ⟨z.1, by omega, z.2.2⟩
    · rw [gN 2 (by omega) (by omega) (by omega) (by omega)] at hj
      have l := a2.2
      rw [gN (52 + j) (by omega) (by omega) (by omega) (by omega), gN (58 + j) (by omega) (by omega) (by omega) (by omega)]
      exact od j hj
    · have hj' : (j : Int) < (g 0).toInt := by rw [hg]; exact hj
      rw [gS] at hj'
      by_cases e : j = k
      · subst e
        show nmR (rL (wL μ 28 4 j (rL μ 6 0 2)) 28 4 j) _
        rw [rL_s]
        exact hn
      · rw [xL 28 j (Or.inr e)]
        have z : (j : Int) < (f 0).toInt := by rw [yk]; omega
        rw [hf] at z
        exact hN.1 j z
    · have hj' : (j : Int) < (g 1).toInt := by rw [hg]; exact hj
      rw [gN 1 (by omega) (by omega) (by omega) (by omega), hf] at hj'
      rw [xL 24 j (Or.inl (by decide))]
      exact hN.2.1 j hj'
    · have hj' : (j : Int) < (g 2).toInt := by rw [hg]; exact hj
      rw [gN 2 (by omega) (by omega) (by omega) (by omega), hf] at hj'
      rw [xL 50 j (Or.inl (by decide))]
      exact hN.2.2 j hj'
    · rw [gN 6 (by omega) (by omega) (by omega) (by omega), hf]; exact h6
    · show rI (adRx μ k P G H) 6 0 3 = rI (adRm ν k P G H) 13 0 25
      rw [rI_k (by decide), rI_k (by decide), rI_k (by decide), rI_k (by decide), rI_wL, rI_k (by decide), rI_k (by decide), rI_k (by decide), rI_k (by decide)]
      exact p1
    · exact p2
    · exact p3
    · rw [gN j (by omega) (by omega) (by omega) (by omega)]
      exact fz j hj
abbrev adMx (μ : sM) (k P G : Nat) : sM := wI (wI (wI (wI (wL μ 24 4 k (rL μ 6 0 2)) 25 4 k (nI P)) 26 4 k (nI G)) 27 4 k 0) 3 4 0 (nI (k + 1))
abbrev adMm (ν : sM) (k P G : Nat) : sM := wI (wI (wI ν 61 0 (1426 + k) (nI P)) 61 0 (1432 + k) (nI G)) 61 0 1393 (nI (k + 1))
theorem addM {k P G : Nat} (hR : RV μ ν) (x0 : rI μ 3 4 0 = nI k) (y0 : rI ν 61 0 1393 = nI k) (k6 : k < 6) (c0 : Nat) (hc0 : rI ν 61 0 1392 = nI c0) (P9 : P < c0) (l0 : c0 ≤ 6) (G1 : 1 ≤ G) (G9 : G ≤ 99) (hn : nmR (rL μ 6 0 2) (rL ν 64 0 (78 + k))) : X2_add 4 (rL μ 6 0 2) (nI P) (nI G) μ = some (adMx μ k P G) ∧ RV (adMx μ k P G) (adMm ν k P G) := by
  constructor
  · unfold X2_add
    rw [x0, if_neg (show ¬ (6 : Int32) ≤ nI k from nI_ge (b := 6) k6 (by omega)), if_pos (inb_nI k6 (by omega)), if_pos (inb_nI k6 (by omega)), if_pos (inb_nI k6 (by omega)), if_pos (inb_nI k6 (by omega)), ix_nI (by omega), nI_1]
  · obtain ⟨⟨hV, ok, hN, h6⟩, ⟨p1, p2, p3⟩, hz⟩ := hR
    obtain ⟨f, hf⟩ : ∃ f : Nat → Int32, f = fun j => rI ν 61 0 (348 * 4 + j) := ⟨_, rfl⟩
    rw [← hf] at hV ok
    obtain ⟨g, hg⟩ : ∃ g : Nat → Int32, g = fun j => rI (adMm ν k P G) 61 0 (348 * 4 + j) := ⟨_, rfl⟩
    have fz : ∀ j, (46 ≤ j ∧ j < 52) ∨ (64 ≤ j ∧ j < 78) → f j = 0 := fun j hj => by rw [hf]; exact hz j hj
    obtain ⟨⟨c0', c1', c2', c3', c4', c5', c6', c7', c8', c9'⟩, hw, hr, hm, hd⟩ := hV
    obtain ⟨⟨a0, a1, a2⟩, ⟨b3, b4, b5, b6, b7, b8, b9⟩, ow, orr, om, od⟩ := ok
    have tk := nI_toInt (n := k) (by omega)
    have tk1 := nI_toInt (n := k + 1) (by omega)
    have yk : (f 1).toInt = (k : Int) := by rw [hf]; show (rI ν 61 0 1393).toInt = _; rw [y0]; exact tk
    have xN : ∀ kk j, kk ≠ 3 → kk ≠ 25 → kk ≠ 26 → kk ≠ 27 → rI (adMx μ k P G) kk 4 j = rI μ kk 4 j := fun kk j q0 q1 q2 q3 => by
      rw [rI_k q0, rI_k q3, rI_k q2, rI_k q1, rI_wL]
    have xL : ∀ kk j, kk ≠ 24 ∨ j ≠ k → rL (adMx μ k P G) kk 4 j = rL μ kk 4 j := fun kk j q => by
      show rL (wL μ 24 4 k (rL μ 6 0 2)) kk 4 j = _
      rcases q with q | q
      · exact rL_k q
      · exact rL_j q
    have gN : ∀ j, j ≠ 1 → j ≠ 34 + k → j ≠ 40 + k → g j = f j := fun j q0 q1 q2 => by
      rw [hg, hf]
      show rI (adMm ν k P G) 61 0 (348 * 4 + j) = rI ν 61 0 (348 * 4 + j)
      rw [rI_j (by omega), rI_j (by omega), rI_j (by omega)]
    have gS : g 1 = nI (k + 1) := by rw [hg]; exact rI_s
    have g34 : g (34 + k) = nI P := by
      rw [hg]
      show rI (adMm ν k P G) 61 0 (348 * 4 + (34 + k)) = nI P
      rw [show 348 * 4 + (34 + k) = 1426 + k by omega, rI_j (by omega), rI_j (by omega), rI_s]
    have g40 : g (40 + k) = nI G := by
      rw [hg]
      show rI (adMm ν k P G) 61 0 (348 * 4 + (40 + k)) = nI G
      rw [show 348 * 4 + (40 + k) = 1432 + k by omega, rI_j (by omega), rI_s]
    have x25 : rI (adMx μ k P G) 25 4 k = nI P := by
      rw [rI_k (by decide), rI_k (by decide), rI_k (by decide), rI_s]
    have x25o : ∀ j, j ≠ k → rI (adMx μ k P G) 25 4 j = rI μ 25 4 j := fun j q => by
      rw [rI_k (by decide), rI_k (by decide), rI_k (by decide), rI_j q, rI_wL]
    have x26 : rI (adMx μ k P G) 26 4 k = nI G := by
      rw [rI_k (by decide), rI_k (by decide), rI_s]
    have x26o : ∀ j, j ≠ k → rI (adMx μ k P G) 26 4 j = rI μ 26 4 j := fun j q => by
      rw [rI_k (by decide), rI_k (by decide), rI_j q, rI_k (by decide), rI_wL]
    have x27 : rI (adMx μ k P G) 27 4 k = 0 := by
      rw [rI_k (by decide), rI_s]
    have x27o : ∀ j, j ≠ k → rI (adMx μ k P G) 27 4 j = rI μ 27 4 j := fun j q => by
      rw [rI_k (by decide), rI_j q, rI_k (by decide), rI_k (by decide), rI_wL]
    suffices hh : (Riv (adMx μ k P G) 4 g ∧ OkR 0 g ∧ RelN (adMx μ k P G) 4 (adMm ν k P G) 4 ∧ (g 6).toInt ≤ 9999) ∧ (rI (adMx μ k P G) 6 0 3 = rI (adMm ν k P G) 13 0 25 ∧ rR (adMx μ k P G) 6 0 0 = 1 ∧ rR (adMx μ k P G) 6 0 1 = 5) ∧ ∀ j, (46 ≤ j ∧ j < 52) ∨ (64 ≤ j ∧ j < 78) → g j = 0 by
      rw [hg] at hh
      exact hh
    refine ⟨⟨⟨⟨?_, ?_, ?_, ?_, ?_, ?_, ?_, ?_, ?_, ?_⟩, fun j hj => ?_, fun j hj => ?_, fun j hj => ?_, fun j hj => ?_⟩, ⟨⟨?_, ?_, ?_⟩, ⟨?_, ?_, ?_, ?_, ?_, ?_, ?_⟩, fun j hj => ?_, fun j hj => ?_, fun j hj => ?_, fun j hj => ?_⟩, ⟨fun j hj => ?_, fun j hj => ?_, fun j hj => ?_⟩, ?_⟩, ⟨?_, ?_, ?_⟩, fun j hj => ?_⟩
    · rw [xN 4 0 (by decide) (by decide) (by decide) (by decide)]; exact c0'.trans (gN 0 (by omega) (by omega) (by omega)).symm
    · rw [rI_s]; exact gS.symm
    · rw [xN 11 0 (by decide) (by decide) (by decide) (by decide)]; exact c2'.trans (gN 2 (by omega) (by omega) (by omega)).symm
    · rw [xN 5 1 (by decide) (by decide) (by decide) (by decide)]; exact c3'.trans (gN 3 (by omega) (by omega) (by omega)).symm
    · rw [xN 5 2 (by decide) (by decide) (by decide) (by decide)]; exact c4'.trans (gN 4 (by omega) (by omega) (by omega)).symm
    · rw [xN 5 3 (by decide) (by decide) (by decide) (by decide)]; exact c5'.trans (gN 5 (by omega) (by omega) (by omega)).symm
    · rw [xN 5 4 (by decide) (by decide) (by decide) (by decide)]; exact c6'.trans (gN 6 (by omega) (by omega) (by omega)).symm
    · rw [xN 5 6 (by decide) (by decide) (by decide) (by decide)]; exact c7'.trans (gN 7 (by omega) (by omega) (by omega)).symm
    · rw [xN 5 5 (by decide) (by decide) (by decide) (by decide)]; exact c8'.trans (gN 8 (by omega) (by omega) (by omega)).symm
    · rw [xN 5 0 (by decide) (by decide) (by decide) (by decide)]; exact c9'.trans (gN 9 (by omega) (by omega) (by omega)).symm
    · rw [xL 34 j (Or.inl (by decide)), gN (10 + j) (by omega) (by omega) (by omega)]; exact hw j hj
    · rw [gN 0 (by omega) (by omega) (by omega)] at hj
      have l := a0.2
      rw [xN 29 j (by decide) (by decide) (by decide) (by decide), xN 30 j (by decide) (by decide) (by decide) (by decide), xN 31 j (by decide) (by decide) (by decide) (by decide), gN (16 + j) (by omega) (by omega) (by omega), gN (22 + j) (by omega) (by omega) (by omega), gN (28 + j) (by omega) (by omega) (by omega)]
      exact hr j hj
    · rw [gS] at hj
      by_cases e : j = k
      · subst e
        rw [x25, x26, x27, g34, g40, gN (46 + j) (by omega) (by omega) (by omega)]
        exact ⟨rfl, rfl, (fz (46 + j) (by omega)).symm⟩
      · rw [x25o j e, x26o j e, x27o j e, gN (34 + j) (by omega) (by omega) (by omega), gN (40 + j) (by omega) (by omega) (by omega), gN (46 + j) (by omega) (by omega) (by omega)]
        exact hm j (by rw [yk]; omega)
    · rw [gN 2 (by omega) (by omega) (by omega)] at hj
      have l := a2.2
      rw [xN 51 j (by decide) (by decide) (by decide) (by decide), xN 52 j (by decide) (by decide) (by decide) (by decide), xN 53 j (by decide) (by decide) (by decide) (by decide), xN 54 j (by decide) (by decide) (by decide) (by decide), gN (52 + j) (by omega) (by omega) (by omega), gN (58 + j) (by omega) (by omega) (by omega), gN (64 + j) (by omega) (by omega) (by omega), gN (70 + j) (by omega) (by omega) (by omega)]
      exact hd j hj
    · rw [gN 0 (by omega) (by omega) (by omega)]; exact a0
    · rw [gS]; unfold rg; omega
    · rw [gN 2 (by omega) (by omega) (by omega)]; exact a2
    · rw [gN 3 (by omega) (by omega) (by omega)]; exact b3
    · rw [gN 4 (by omega) (by omega) (by omega)]; exact b4
    · rw [gN 5 (by omega) (by omega) (by omega)]; exact b5
    · rw [gN 6 (by omega) (by omega) (by omega)]; exact b6
    · rw [gN 7 (by omega) (by omega) (by omega)]; exact b7
    · rw [gN 8 (by omega) (by omega) (by omega)]; exact b8
    · rw [gN 9 (by omega) (by omega) (by omega)]; exact b9
    · rw [gN (10 + j) (by omega) (by omega) (by omega), gN 6 (by omega) (by omega) (by omega)]; exact ow j hj
    · rw [gN 0 (by omega) (by omega) (by omega)] at hj
      have l := a0.2
      rw [gN (16 + j) (by omega) (by omega) (by omega), gN (22 + j) (by omega) (by omega) (by omega), gN (28 + j) (by omega) (by omega) (by omega)]
      exact orr j hj
    · rw [gS] at hj
      have tP := nI_toInt (n := P) (by omega)
      have tG := nI_toInt (n := G) (by omega)
      have tc := nI_toInt (n := c0) (by omega)
      have t6 := b6.1
      rw [gN 0 (by omega) (by omega) (by omega), gN 6 (by omega) (by omega) (by omega)]
      by_cases e : j = k
      · subst e
        rw [g34, g40, gN (46 + j) (by omega) (by omega) (by omega), fz (46 + j) (by omega), show f 0 = nI c0 from by rw [hf]; exact hc0, tc, tP]
        unfold rg
        rw [tG, t0]
        refine ⟨by omega, by omega, by omega, by omega, t6⟩
      · rw [gN (34 + j) (by omega) (by omega) (by omega), gN (40 + j) (by omega) (by omega) (by omega), gN (46 + j) (by omega) (by omega) (by omega)]
        exact om j (by rw [yk]; omega)
    · rw [gN 2 (by omega) (by omega) (by omega)] at hj
      have l := a2.2
      rw [gN (52 + j) (by omega) (by omega) (by omega), gN (58 + j) (by omega) (by omega) (by omega)]
      exact od j hj
    · have hj' : (j : Int) < (g 0).toInt := by rw [hg]; exact hj
      rw [gN 0 (by omega) (by omega) (by omega), hf] at hj'
      rw [xL 28 j (Or.inl (by decide))]
      exact hN.1 j hj'
    · have hj' : (j : Int) < (g 1).toInt := by rw [hg]; exact hj
      rw [gS] at hj'
      by_cases e : j = k
      · subst e
        show nmR (rL (wL μ 24 4 j (rL μ 6 0 2)) 24 4 j) _
        rw [rL_s]
        exact hn
      · rw [xL 24 j (Or.inr e)]
        have z : (j : Int) < (f 1).toInt := by rw [yk]; omega
        rw [hf] at z
        exact hN.2.1 j z
    · have hj' : (j : Int) < (g 2).toInt := by rw [hg]; exact hj
      rw [gN 2 (by omega) (by omega) (by omega), hf] at hj'
      rw [xL 50 j (Or.inl (by decide))]
      exact hN.2.2 j hj'
    · rw [gN 6 (by omega) (by omega) (by omega), hf]; exact h6
    · show rI (adMx μ k P G) 6 0 3 = rI (adMm ν k P G) 13 0 25
      rw [rI_k (by decide), rI_k (by decide), rI_k (by decide), rI_k (by decide), rI_wL, rI_k (by decide), rI_k (by decide), rI_k (by decide)]
      exact p1
    · exact p2
    · exact p3
    · rw [gN j (by omega) (by omega) (by omega)]
      exact fz j hj
abbrev adWx (μ : sM) (k P G : Nat) : sM := wI (wI (wI (wI (wI (wL μ 50 4 k (rL μ 6 0 2)) 51 4 k (nI P)) 52 4 k (nI G)) 53 4 k 0) 54 4 k 0) 11 4 0 (nI (k + 1))
abbrev adWm (ν : sM) (k P G : Nat) : sM := wI (wI (wI ν 61 0 (1444 + k) (nI P)) 61 0 (1450 + k) (nI G)) 61 0 1394 (nI (k + 1))
theorem addW {k P G : Nat} (hR : RV μ ν) (x0 : rI μ 11 4 0 = nI k) (y0 : rI ν 61 0 1394 = nI k) (k6 : k < 6) (P1 : 1 ≤ P) (P9 : P ≤ 40) (G9 : G ≤ 99) (hn : nmR (rL μ 6 0 2) (rL ν 64 0 (84 + k))) : X10_add 4 (rL μ 6 0 2) (nI P) (nI G) μ = some (adWx μ k P G) ∧ RV (adWx μ k P G) (adWm ν k P G) := by
  constructor
  · unfold X10_add
    rw [x0, if_neg (show ¬ (6 : Int32) ≤ nI k from nI_ge (b := 6) k6 (by omega)), if_pos (inb_nI k6 (by omega)), if_pos (inb_nI k6 (by omega)), if_pos (inb_nI k6 (by omega)), if_pos (inb_nI k6 (by omega)), if_pos (inb_nI k6 (by omega)), ix_nI (by omega), nI_1]
  · obtain ⟨⟨hV, ok, hN, h6⟩, ⟨p1, p2, p3⟩, hz⟩ := hR
    obtain ⟨f, hf⟩ : ∃ f : Nat → Int32, f = fun j => rI ν 61 0 (348 * 4 + j) := ⟨_, rfl⟩
    rw [← hf] at hV ok
    obtain ⟨g, hg⟩ : ∃ g : Nat → Int32, g = fun j => rI (adWm ν k P G) 61 0 (348 * 4 + j) := ⟨_, rfl⟩
    have fz : ∀ j, (46 ≤ j ∧ j < 52) ∨ (64 ≤ j ∧ j < 78) → f j = 0 := fun j hj => by rw [hf]; exact hz j hj
    obtain ⟨⟨c0', c1', c2', c3', c4', c5', c6', c7', c8', c9'⟩, hw, hr, hm, hd⟩ := hV
    obtain ⟨⟨a0, a1, a2⟩, ⟨b3, b4, b5, b6, b7, b8, b9⟩, ow, orr, om, od⟩ := ok
    have tk := nI_toInt (n := k) (by omega)
    have tk1 := nI_toInt (n := k + 1) (by omega)
    have yk : (f 2).toInt = (k : Int) := by rw [hf]; show (rI ν 61 0 1394).toInt = _; rw [y0]; exact tk
    have xN : ∀ kk j, kk ≠ 11 → kk ≠ 51 → kk ≠ 52 → kk ≠ 53 → kk ≠ 54 → rI (adWx μ k P G) kk 4 j = rI μ kk 4 j := fun kk j q0 q1 q2 q3 q4 => by
      rw [rI_k q0, rI_k q4, rI_k q3, rI_k q2, rI_k q1, rI_wL]
    have xL : ∀ kk j, kk ≠ 50 ∨ j ≠ k → rL (adWx μ k P G) kk 4 j = rL μ kk 4 j := fun kk j q => by
      show rL (wL μ 50 4 k (rL μ 6 0 2)) kk 4 j = _
      rcases q with q | q
      · exact rL_k q
      · exact rL_j q
    have gN : ∀ j, j ≠ 2 → j ≠ 52 + k → j ≠ 58 + k → g j = f j := fun j q0 q1 q2 => by
      rw [hg, hf]
      show rI (adWm ν k P G) 61 0 (348 * 4 + j) = rI ν 61 0 (348 * 4 + j)
      rw [rI_j (by omega), rI_j (by omega), rI_j (by omega)]
    have gS : g 2 = nI (k + 1) := by rw [hg]; exact rI_s
    have g52 : g (52 + k) = nI P := by
      rw [hg]
      show rI (adWm ν k P G) 61 0 (348 * 4 + (52 + k)) = nI P
      rw [show 348 * 4 + (52 + k) = 1444 + k by omega, rI_j (by omega), rI_j (by omega), rI_s]
    have g58 : g (58 + k) = nI G := by
      rw [hg]
      show rI (adWm ν k P G) 61 0 (348 * 4 + (58 + k)) = nI G
      rw [show 348 * 4 + (58 + k) = 1450 + k by omega, rI_j (by omega), rI_s]
    have x51 : rI (adWx μ k P G) 51 4 k = nI P := by
      rw [rI_k (by decide), rI_k (by decide), rI_k (by decide), rI_k (by decide), rI_s]
    have x51o : ∀ j, j ≠ k → rI (adWx μ k P G) 51 4 j = rI μ 51 4 j := fun j q => by
      rw [rI_k (by decide), rI_k (by decide), rI_k (by decide), rI_k (by decide), rI_j q, rI_wL]
    have x52 : rI (adWx μ k P G) 52 4 k = nI G := by
      rw [rI_k (by decide), rI_k (by decide), rI_k (by decide), rI_s]
    have x52o : ∀ j, j ≠ k → rI (adWx μ k P G) 52 4 j = rI μ 52 4 j := fun j q => by
      rw [rI_k (by decide), rI_k (by decide), rI_k (by decide), rI_j q, rI_k (by decide), rI_wL]
    have x53 : rI (adWx μ k P G) 53 4 k = 0 := by
      rw [rI_k (by decide), rI_k (by decide), rI_s]
    have x53o : ∀ j, j ≠ k → rI (adWx μ k P G) 53 4 j = rI μ 53 4 j := fun j q => by
      rw [rI_k (by decide), rI_k (by decide), rI_j q, rI_k (by decide), rI_k (by decide), rI_wL]
    have x54 : rI (adWx μ k P G) 54 4 k = 0 := by
      rw [rI_k (by decide), rI_s]
    have x54o : ∀ j, j ≠ k → rI (adWx μ k P G) 54 4 j = rI μ 54 4 j := fun j q => by
      rw [rI_k (by decide), rI_j q, rI_k (by decide), rI_k (by decide), rI_k (by decide), rI_wL]
    suffices hh : (Riv (adWx μ k P G) 4 g ∧ OkR 0 g ∧ RelN (adWx μ k P G) 4 (adWm ν k P G) 4 ∧ (g 6).toInt ≤ 9999) ∧ (rI (adWx μ k P G) 6 0 3 = rI (adWm ν k P G) 13 0 25 ∧ rR (adWx μ k P G) 6 0 0 = 1 ∧ rR (adWx μ k P G) 6 0 1 = 5) ∧ ∀ j, (46 ≤ j ∧ j < 52) ∨ (64 ≤ j ∧ j < 78) → g j = 0 by
      rw [hg] at hh
      exact hh
    refine ⟨⟨⟨⟨?_, ?_, ?_, ?_, ?_, ?_, ?_, ?_, ?_, ?_⟩, fun j hj => ?_, fun j hj => ?_, fun j hj => ?_, fun j hj => ?_⟩, ⟨⟨?_, ?_, ?_⟩, ⟨?_, ?_, ?_, ?_, ?_, ?_, ?_⟩, fun j hj => ?_, fun j hj => ?_, fun j hj => ?_, fun j hj => ?_⟩, ⟨fun j hj => ?_, fun j hj => ?_, fun j hj => ?_⟩, ?_⟩, ⟨?_, ?_, ?_⟩, fun j hj => ?_⟩
    · rw [xN 4 0 (by decide) (by decide) (by decide) (by decide) (by decide)]; exact c0'.trans (gN 0 (by omega) (by omega) (by omega)).symm
    · rw [xN 3 0 (by decide) (by decide) (by decide) (by decide) (by decide)]; exact c1'.trans (gN 1 (by omega) (by omega) (by omega)).symm
    · rw [rI_s]; exact gS.symm
    · rw [xN 5 1 (by decide) (by decide) (by decide) (by decide) (by decide)]; exact c3'.trans (gN 3 (by omega) (by omega) (by omega)).symm
    · rw [xN 5 2 (by decide) (by decide) (by decide) (by decide) (by decide)]; exact c4'.trans (gN 4 (by omega) (by omega) (by omega)).symm
    · rw [xN 5 3 (by decide) (by decide) (by decide) (by decide) (by decide)]; exact c5'.trans (gN 5 (by omega) (by omega) (by omega)).symm
    · rw [xN 5 4 (by decide) (by decide) (by decide) (by decide) (by decide)]; exact c6'.trans (gN 6 (by omega) (by omega) (by omega)).symm
    · rw [xN 5 6 (by decide) (by decide) (by decide) (by decide) (by decide)]; exact c7'.trans (gN 7 (by omega) (by omega) (by omega)).symm
    · rw [xN 5 5 (by decide) (by decide) (by decide) (by decide) (by decide)]; exact c8'.trans (gN 8 (by omega) (by omega) (by omega)).symm
    · rw [xN 5 0 (by decide) (by decide) (by decide) (by decide) (by decide)]; exact c9'.trans (gN 9 (by omega) (by omega) (by omega)).symm
    · rw [xL 34 j (Or.inl (by decide)), gN (10 + j) (by omega) (by omega) (by omega)]; exact hw j hj
    · rw [gN 0 (by omega) (by omega) (by omega)] at hj
      have l := a0.2
      rw [xN 29 j (by decide) (by decide) (by decide) (by decide) (by decide), xN 30 j (by decide) (by decide) (by decide) (by decide) (by decide), xN 31 j (by decide) (by decide) (by decide) (by decide) (by decide), gN (16 + j) (by omega) (by omega) (by omega), gN (22 + j) (by omega) (by omega) (by omega), gN (28 + j) (by omega) (by omega) (by omega)]
      exact hr j hj
    · rw [gN 1 (by omega) (by omega) (by omega)] at hj
      have l := a1.2
      rw [xN 25 j (by decide) (by decide) (by decide) (by decide) (by decide), xN 26 j (by decide) (by decide) (by decide) (by decide) (by decide), xN 27 j (by decide) (by decide) (by decide) (by decide) (by decide), gN (34 + j) (by omega) (by omega) (by omega), gN (40 + j) (by omega) (by omega) (by omega), gN (46 + j) (by omega) (by omega) (by omega)]
      exact hm j hj
    · rw [gS] at hj
      by_cases e : j = k
      · subst e
        rw [x51, x52, x53, x54, g52, g58, gN (64 + j) (by omega) (by omega) (by omega), gN (70 + j) (by omega) (by omega) (by omega)]
        exact ⟨rfl, rfl, (fz (64 + j) (by omega)).symm, (fz (70 + j) (by omega)).symm⟩
      · rw [x51o j e, x52o j e, x53o j e, x54o j e, gN (52 + j) (by omega) (by omega) (by omega), gN (58 + j) (by omega) (by omega) (by omega), gN (64 + j) (by omega) (by omega) (by omega), gN (70 + j) (by omega) (by omega) (by omega)]
        exact hd j (by rw [yk]; omega)
    · rw [gN 0 (by omega) (by omega) (by omega)]; exact a0
    · rw [gN 1 (by omega) (by omega) (by omega)]; exact a1
    · rw [gS]; unfold rg; omega
    · rw [gN 3 (by omega) (by omega) (by omega)]; exact b3
    · rw [gN 4 (by omega) (by omega) (by omega)]; exact b4
    · rw [gN 5 (by omega) (by omega) (by omega)]; exact b5
    · rw [gN 6 (by omega) (by omega) (by omega)]; exact b6
    · rw [gN 7 (by omega) (by omega) (by omega)]; exact b7
    · rw [gN 8 (by omega) (by omega) (by omega)]; exact b8
    · rw [gN 9 (by omega) (by omega) (by omega)]; exact b9
    · rw [gN (10 + j) (by omega) (by omega) (by omega), gN 6 (by omega) (by omega) (by omega)]; exact ow j hj
    · rw [gN 0 (by omega) (by omega) (by omega)] at hj
      have l := a0.2
      rw [gN (16 + j) (by omega) (by omega) (by omega), gN (22 + j) (by omega) (by omega) (by omega), gN (28 + j) (by omega) (by omega) (by omega)]
      exact orr j hj
    · rw [gN 1 (by omega) (by omega) (by omega)] at hj
      have l := a1.2
      rw [gN (34 + j) (by omega) (by omega) (by omega), gN (40 + j) (by omega) (by omega) (by omega), gN (46 + j) (by omega) (by omega) (by omega), gN 6 (by omega) (by omega) (by omega), gN 0 (by omega) (by omega) (by omega)]
      exact om j hj
    · rw [gS] at hj
      have tP := nI_toInt (n := P) (by omega)
      have tG := nI_toInt (n := G) (by omega)
      by_cases e : j = k
      · subst e
        rw [g52, g58]
        unfold rg
        omega
      · rw [gN (52 + j) (by omega) (by omega) (by omega), gN (58 + j) (by omega) (by omega) (by omega)]
        exact od j (by rw [yk]; omega)
    · have hj' : (j : Int) < (g 0).toInt := by rw [hg]; exact hj
      rw [gN 0 (by omega) (by omega) (by omega), hf] at hj'
      rw [xL 28 j (Or.inl (by decide))]
      exact hN.1 j hj'
    · have hj' : (j : Int) < (g 1).toInt := by rw [hg]; exact hj
      rw [gN 1 (by omega) (by omega) (by omega), hf] at hj'
      rw [xL 24 j (Or.inl (by decide))]
      exact hN.2.1 j hj'
    · have hj' : (j : Int) < (g 2).toInt := by rw [hg]; exact hj
      rw [gS] at hj'
      by_cases e : j = k
      · subst e
        show nmR (rL (wL μ 50 4 j (rL μ 6 0 2)) 50 4 j) _
        rw [rL_s]
        exact hn
      · rw [xL 50 j (Or.inr e)]
        have z : (j : Int) < (f 2).toInt := by rw [yk]; omega
        rw [hf] at z
        exact hN.2.2 j z
    · rw [gN 6 (by omega) (by omega) (by omega), hf]; exact h6
    · show rI (adWx μ k P G) 6 0 3 = rI (adWm ν k P G) 13 0 25
      rw [rI_k (by decide), rI_k (by decide), rI_k (by decide), rI_k (by decide), rI_k (by decide), rI_wL, rI_k (by decide), rI_k (by decide), rI_k (by decide)]
      exact p1
    · exact p2
    · exact p3
    · rw [gN j (by omega) (by omega) (by omega)]
      exact fz j hj
end C98o
