/-! 83: one number of the row changed -/
def clk (j : Nat) : Nat := if j = 0 then 4 else if j = 1 then 3 else if j = 2 then 11 else if j < 10 then 5 else if j < 16 then 34 else if j < 22 then 29 else if j < 28 then 30 else if j < 34 then 31 else if j < 40 then 25 else if j < 46 then 26 else if j < 52 then 27 else if j < 58 then 51 else if j < 64 then 52 else if j < 70 then 53 else 54
def clp (j : Nat) : Nat := match j with
  | 3 => 1
  | 4 => 2
  | 5 => 3
  | 6 => 4
  | 7 => 6
  | 8 => 5
  | j => if j < 10 then 0 else (j - 10) % 6
theorem cl_s : ∀ j, j < 76 → ∀ i, i < 10 → j ≠ i → ¬ (clk j = clk i ∧ clp i = clp j) := by decide +kernel
theorem cl_a : ∀ j, j < 76 → ∀ i, i < 60 → j ≠ 16 + i → ¬ (clk j = clk (16 + i) ∧ clp (16 + i) = clp j) := by decide +kernel
theorem cl_ap : ∀ q, q < 10 → ∀ p, p < 6 → clp (16 + 6 * q + p) = p ∧ clk (16 + 6 * q + p) = clk (16 + 6 * q) := by decide +kernel
theorem Riv_u {μ : sM} {r j : Nat} {f : Nat → Int32} {v : Int32} (h : Riv μ r f) (ok : ∃ B, OkR B f) (hj : 3 ≤ j ∧ j < 76 ∧ (j < 10 ∨ 16 ≤ j)) : Riv (wI μ (clk j) r (clp j) v) r (upd f j v) := by
  obtain ⟨B, ok⟩ := ok
  have u0 := ok.1.1
  have u1 := ok.1.2.1
  have u2 := ok.1.2.2
  unfold rg at u0 u1 u2
  have sc : ∀ i, i < 10 → rI μ (clk i) r (clp i) = f i → rI (wI μ (clk j) r (clp j) v) (clk i) r (clp i) = upd f j v i := by
    intro i hi e
    by_cases z : j = i
    · subst z
      rw [rI_s, upd_s]
    · rw [rI_wI, if_neg (fun q => cl_s j hj.2.1 i hi z ⟨q.1.symm, q.2.1⟩), upd_n (fun q => z q.symm), e]
  have ar : ∀ i, i < 60 → rI μ (clk (16 + i)) r (clp (16 + i)) = f (16 + i) → rI (wI μ (clk j) r (clp j) v) (clk (16 + i)) r (clp (16 + i)) = upd f j v (16 + i) := by
    intro i hi e
    by_cases z : j = 16 + i
    · subst z
      rw [rI_s, upd_s]
    · rw [rI_wI, if_neg (fun q => cl_a j hj.2.1 i hi z ⟨q.1.symm, q.2.1⟩), upd_n (fun q => z q.symm), e]
  have ar6 : ∀ q p, q < 10 → p < 6 → rI μ (clk (16 + 6 * q)) r p = f (16 + 6 * q + p) → rI (wI μ (clk j) r (clp j) v) (clk (16 + 6 * q)) r p = upd f j v (16 + 6 * q + p) := by
    intro q p hq hp e
    have z := ar (6 * q + p) (by omega)
    obtain ⟨z1, z2⟩ := cl_ap q hq p hp
    rw [show 16 + (6 * q + p) = 16 + 6 * q + p by omega, z1, z2] at z
    exact z e
  obtain ⟨⟨c0, c1, c2, c3, c4, c5, c6, c7, c8, c9⟩, hw, hr, hm, hd⟩ := h
  have e0 : upd f j v 0 = f 0 := upd_n (by omega)
  have e1 : upd f j v 1 = f 1 := upd_n (by omega)
  have e2 : upd f j v 2 = f 2 := upd_n (by omega)
  refine ⟨⟨sc 0 (by omega) c0, sc 1 (by omega) c1, sc 2 (by omega) c2, sc 3 (by omega) c3, sc 4 (by omega) c4, sc 5 (by omega) c5, sc 6 (by omega) c6, sc 7 (by omega) c7, sc 8 (by omega) c8, sc 9 (by omega) c9⟩, fun i hi => ?_, fun i hi => ?_, fun i hi => ?_, fun i hi => ?_⟩
  · rw [rL_wI, upd_n (by omega)]
    exact hw i hi
  · rw [e0] at hi
    have z := hr i hi
    exact ⟨ar6 0 i (by omega) (by omega) z.1, ar6 1 i (by omega) (by omega) z.2.1, ar6 2 i (by omega) (by omega) z.2.2⟩
  · rw [e1] at hi
    have z := hm i hi
    exact ⟨ar6 3 i (by omega) (by omega) z.1, ar6 4 i (by omega) (by omega) z.2.1, ar6 5 i (by omega) (by omega) z.2.2⟩
  · rw [e2] at hi
    have z := hd i hi
    exact ⟨ar6 6 i (by omega) (by omega) z.1, ar6 7 i (by omega) (by omega) z.2.1, ar6 8 i (by omega) (by omega) z.2.2.1, ar6 9 i (by omega) (by omega) z.2.2.2⟩
/-- a number that the row may take at j -/
def okv (B : Int) (f : Nat → Int32) (j : Nat) (v : Int32) : Prop :=
  (j = 3 ∧ rg v 0 9) ∨ (j = 4 ∧ rg v 0 99) ∨ (j = 5 ∧ rg v 0 16) ∨ (j = 7 ∧ (v = 0 ∨ v = 1)) ∨ (j = 8 ∧ rg v 0 12) ∨ (j = 9 ∧ rg v (-60) 60) ∨ (10 ≤ j ∧ j < 16 ∧ rg v (-(10000 * (f 6).toInt + B)) (10000 * (f 6).toInt + B)) ∨
  (22 ≤ j ∧ j < 28 ∧ rg v 0 99) ∨ (28 ≤ j ∧ j < 34 ∧ 0 ≤ v.toInt ∧ v.toInt ≤ (f (j - 12)).toInt) ∨ (52 ≤ j ∧ j < 58 ∧ rg v 1 40) ∨ 64 ≤ j
theorem OkR_u {B : Int} {f : Nat → Int32} {j : Nat} {v : Int32} (h : OkR B f) (hv : okv B f j v) : OkR B (upd f j v) := by
  obtain ⟨⟨a0, a1, a2⟩, ⟨b3, b4, b5, b6, b7, b8, b9⟩, hw, hr, hml, hwd⟩ := h
  unfold okv at hv
  have n0 : j ≠ 0 := by omega
  have n1 : j ≠ 1 := by omega
  have n2 : j ≠ 2 := by omega
  have n6 : j ≠ 6 := by omega
  have e0 : upd f j v 0 = f 0 := upd_n n0.symm
  have e1 : upd f j v 1 = f 1 := upd_n n1.symm
  have e2 : upd f j v 2 = f 2 := upd_n n2.symm
  have e6 : upd f j v 6 = f 6 := upd_n n6.symm
  have u0 := a0
  have u1 := a1
  have u2 := a2
  unfold rg at u0 u1 u2
  refine ⟨⟨by rw [e0]; exact a0, by rw [e1]; exact a1, by rw [e2]; exact a2⟩, ⟨?_, ?_, ?_, by rw [e6]; exact b6, ?_, ?_, ?_⟩, fun i hi => ?_, fun i hi => ?_, fun i hi => ?_, fun i hi => ?_⟩
  · by_cases z : j = 3
    · subst z
      rw [upd_s]
      rcases hv with ⟨-, q⟩ | q
      · exact q
      · omega
    · rw [upd_n (fun q => z q.symm)]; exact b3
  · by_cases z : j = 4
    · subst z
      rw [upd_s]
      rcases hv with q | ⟨-, q⟩ | q
      · omega
      · exact q
      · omega
    · rw [upd_n (fun q => z q.symm)]; exact b4
  · by_cases z : j = 5
    · subst z
      rw [upd_s]
      rcases hv with q | q | ⟨-, q⟩ | q
      · omega
      · omega
      · exact q
      · omega
    · rw [upd_n (fun q => z q.symm)]; exact b5
  · by_cases z : j = 7
    · subst z
      rw [upd_s]
      rcases hv with q | q | q | ⟨-, q⟩ | q
      · omega
      · omega
      · omega
      · exact q
      · omega
    · rw [upd_n (fun q => z q.symm)]; exact b7
  · by_cases z : j = 8
    · subst z
      rw [upd_s]
      rcases hv with q | q | q | q | ⟨-, q⟩ | q
      · omega
      · omega
      · omega
      · omega
      · exact q
      · omega
    · rw [upd_n (fun q => z q.symm)]; exact b8
  · by_cases z : j = 9
    · subst z
      rw [upd_s]
      rcases hv with q | q | q | q | q | ⟨-, q⟩ | q
      · omega
      · omega
      · omega
      · omega
      · omega
      · exact q
      · omega
    · rw [upd_n (fun q => z q.symm)]; exact b9
  · rw [e6]
    by_cases z : j = 10 + i
    · subst z
      rw [upd_s]
      rcases hv with q | q | q | q | q | q | ⟨-, -, q⟩ | q
      · omega
      · omega
      · omega
      · omega
      · omega
      · omega
      · exact q
      · omega
    · rw [upd_n (fun q => z q.symm)]; exact hw i hi
  · rw [e0] at hi
    have w := hr i hi
    have n16 : upd f j v (16 + i) = f (16 + i) := upd_n (by omega)
    rw [n16]
    refine ⟨w.1, ?_, ?_⟩
    · by_cases z : j = 22 + i
      · subst z
        rw [upd_s]
        rcases hv with q | q | q | q | q | q | q | ⟨-, -, q⟩ | q
        · omega
        · omega
        · omega
        · omega
        · omega
        · omega
        · omega
        · exact q
        · omega
      · rw [upd_n (fun q => z q.symm)]; exact w.2.1
    · by_cases z : j = 28 + i
      · subst z
        rw [upd_s]
        rcases hv with q | q | q | q | q | q | q | q | ⟨-, -, q⟩ | q
        · omega
        · omega
        · omega
        · omega
        · omega
        · omega
        · omega
        · omega
        · rw [show 28 + i - 12 = 16 + i by omega] at q
          exact q
        · omega
      · rw [upd_n (fun q => z q.symm)]; exact w.2.2
  · rw [e1] at hi
    rw [e0, e6, upd_n (show 34 + i ≠ j by omega), upd_n (show 40 + i ≠ j by omega), upd_n (show 46 + i ≠ j by omega)]
    exact hml i hi
  · rw [e2] at hi
    have w := hwd i hi
    rw [upd_n (show 58 + i ≠ j by omega)]
    refine ⟨?_, w.2⟩
    by_cases z : j = 52 + i
    · subst z
      rw [upd_s]
      rcases hv with q | q | q | q | q | q | q | q | q | ⟨-, -, q⟩ | q
      · omega
      · omega
      · omega
      · omega
      · omega
      · omega
      · omega
      · omega
      · omega
      · exact q
      · omega
    · rw [upd_n (fun q => z q.symm)]; exact w.1
theorem qA_c {j : Nat} (h : 3 ≤ j) (h2 : j < 76) : qA 61 0 j = false := by
  apply Bool.eq_false_iff.mpr
  intro z
  unfold qA qF qT qP qN qW qK qV at z
  simp only [Bool.or_eq_true, Bool.and_eq_true, beq_iff_eq, Nat.ble_eq, rk] at z
  omega
