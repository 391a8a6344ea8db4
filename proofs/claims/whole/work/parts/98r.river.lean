/-! 98r: river -/
section C98r
variable {B : Int} {μ ν : sM} {n : Nat}
def qXb (k _ _ : Nat) : Bool := !(k == 7 || (k == 36 || (k == 37 || k == 38)))
def qMb (k _ j : Nat) : Bool := !(k == 13 && (Nat.ble j 1 || (Nat.ble 8 j && Nat.ble j 19)))
theorem qTk_b : ∀ k i j, qXb k i j = true → qTk k i j = true := by
  intro k i j h
  unfold qXb at h
  unfold qTk
  by_cases z : k = 36 ∨ k = 37 ∨ k = 38 ∨ k = 7
  · exfalso
    rcases z with rfl | rfl | rfl | rfl <;> cases h
  · have a : k ≠ 36 := fun q => z (Or.inl q)
    have b : k ≠ 37 := fun q => z (Or.inr (Or.inl q))
    have c : k ≠ 38 := fun q => z (Or.inr (Or.inr (Or.inl q)))
    have d : k ≠ 7 := fun q => z (Or.inr (Or.inr (Or.inr q)))
    simp [a, b, c, d]
theorem qAv_b : ∀ k i j, qMb k i j = true → qAv k i j = true := by
  intro k i j h
  unfold qMb at h
  unfold qAv
  by_cases z : k = 13 ∧ 14 ≤ j ∧ j ≤ 19
  · exfalso
    rw [z.1, Nat.ble_eq_true_of_le (show 8 ≤ j by omega), Nat.ble_eq_true_of_le z.2.2] at h
    simp at h
  · cases e : (k == 13 && (Nat.ble 14 j && Nat.ble j 19)) with
    | false => rfl
    | true =>
      exfalso
      apply z
      simpa only [Bool.and_eq_true, beq_iff_eq, Nat.ble_eq] using e
theorem start2 (h : Rel B μ ν) (hn : (n : Int) ≤ (rI ν 13 0 8).toInt) : ∃ μ1 ν1 m K V s, X6_begin (nI n) μ = some μ1 ∧ X12_advance (wI (wI (wI (wI (m0 ν) 13 0 9 (nI n)) 13 0 8 0) 13 0 16 0) 13 0 12 0) = some ν1 ∧ CS μ1 ν1 (rI ν 60 0) n 0 m K V s ∧ rI μ1 7 0 1 = 0 ∧ rI ν1 13 0 8 = 0 ∧ rI ν1 13 0 0 = 0 ∧ kq qXb μ μ1 ∧ kq qMb ν ν1 := by
  obtain ⟨⟨p1, p2, p3⟩, -, -⟩ := h.2.2.2.1
  obtain ⟨F, hF, F9, hF'⟩ := rg_nI (b := 900) p2
  have n9 : n ≤ F := by omega
  have hb : ∀ j, j < n → rI (wI μ 7 0 8 0) 35 0 j = rI ν 60 0 j := fun j hj => by
    rw [rI_k (by decide)]
    exact (p3 j (by omega)).1
  obtain ⟨m0', μ', e1, hC, g8, gm, gk, -⟩ := begin_l (b := rI ν 60 0) (n := n) (by omega) (n + 1) 0 0 fuN (wI μ 7 0 8 0) (by omega) (by omega) (by omega) (fuN_6 (by omega)) hb rI_s
  cases m0' with
  | zero => exact absurd hC (by show ¬ n < 0; omega)
  | succ m =>
    obtain ⟨-, K, V, s, e, hT, a1, a2, a3, hC'⟩ := hC
    obtain ⟨t1, t2, t3, t4, t5⟩ := Tok_e hT (by omega)
    have T0 : Txt (wI (wI (wI (wI (m0 ν) 13 0 9 (nI n)) 13 0 8 0) 13 0 16 0) 13 0 12 0) (rI ν 60 0) n := ⟨by rw [rI_j (by decide), rI_j (by decide), rI_j (by decide), rI_s], by omega, fun j hj => by rw [rI_k (by decide), rI_k (by decide), rI_k (by decide), rI_k (by decide), m0_k (by decide)], fun j hj => (p3 j (by omega)).2⟩
    obtain ⟨ν1, e2, r1, r2, r3, r4⟩ := adv_e (p := 0) T0 (by omega) (by rw [rI_j (by decide), rI_s]; rfl) hT
    refine ⟨wL (wI (wI (wI (wI (wI μ' 7 0 1 0) 7 0 2 0) 7 0 3 (-1)) 7 0 7 0) 7 0 4 (nI K)) 7 0 5 V, ν1, m, K, V, s, ?_, e2, ⟨⟨((r4 13 0 9 rfl).1).trans T0.1, by omega, fun j hj => ((r4 60 0 j rfl).1).trans (T0.2.2.1 j hj), T0.2.2.2⟩, ⟨?_, ?_, by omega, ?_, ?_⟩, ⟨?_, rL_s, ?_⟩, t1, r1, r2, ?_, e, fun z => ⟨r3 z, t5.mp z⟩, ?_⟩, ?_, ?_, ?_, ?_, ?_⟩
    · unfold X6_begin
      have eI : imn (nI n) (rI μ 7 0 1) = nI n := by
        rw [p1, hF]
        exact if_neg (nI_nlt n9 (by omega))
      rw [eI]
      rw [nI_0] at e1
      rw [e1]
      unfold X6_begin_J43
      rw [a1, a3]
    · rw [rI_wL, rI_j (by decide), rI_s]; rfl
    · rw [rI_wL, rI_j (by decide), rI_j (by decide), rI_j (by decide), rI_j (by decide), rI_j (by decide), g8]
      congr 1
    · rw [rI_wL, rI_j (by decide), rI_j (by decide), rI_j (by decide), rI_s]
    · rw [rI_wL, rI_j (by decide), rI_j (by decide), rI_s]
    · rw [rI_wL, rI_s]
    · rw [rI_wL, rI_k (by decide), rI_k (by decide), rI_k (by decide), rI_k (by decide), rI_k (by decide)]; exact a2
    · rw [(r4 13 0 12 rfl).1, rI_s]
    · refine Ch_c m 1 e (fun j => ⟨?_, ?_, ?_⟩) hC'
      · rw [rI_wL, rI_k (by decide), rI_k (by decide), rI_k (by decide), rI_k (by decide), rI_k (by decide)]
      · rw [rI_wL, rI_k (by decide), rI_k (by decide), rI_k (by decide), rI_k (by decide), rI_k (by decide)]
      · rw [rL_k (by decide)]; rfl
    · rw [rI_wL, rI_j (by decide), rI_j (by decide), rI_j (by decide), rI_j (by decide), rI_s]
    · rw [(r4 13 0 8 rfl).1, rI_j (by decide), rI_j (by decide), rI_s]
    · rw [(r4 13 0 0 rfl).1, rI_j (by decide), rI_j (by decide), rI_j (by decide), rI_j (by decide), rI_s]
    · exact kq_wL rfl (kq_wI rfl (kq_wI rfl (kq_wI rfl (kq_wI rfl (kq_wI rfl (kq_t (kq_wI rfl kq_r) (kq_m gk qTk_b)))))))
    · exact kq_t (kq_wI rfl (kq_wI rfl (kq_wI rfl (kq_wI rfl (kq_wI rfl (kq_wI rfl kq_r)))))) (kq_m r4 qAv_b)
/-! an empty RIVER to read into -/
theorem clear_l : ∀ (k i fu : Nat) (μ : sM), i + k = 6 → k < fu → X4_clear_L37 fu 4 (nI i) μ = some (wI (wI (wI (sD μ 34 4 (fun j => if i ≤ j ∧ j < 6 then 0 else rL μ 34 4 j)) 4 4 0 0) 3 4 0 0) 11 4 0 0)
  | 0, i, fu + 1, μ, h, _ => by
    unfold X4_clear_L37
    rw [if_pos (show (6 : Int32) ≤ nI i from nI_le (a := 6) (by omega) (by omega)), sD_id]
    intro j
    rw [if_neg (by omega)]
  | k + 1, i, fu + 1, μ, h, hf => by
    rw [X4_clear_L37]
    rw [if_neg (show ¬ (6 : Int32) ≤ nI i from nI_ge (b := 6) (by omega) (by omega)), if_pos (inb_nI (by omega) (by omega)), ix_nI (by omega), nI_1, clear_l k (i + 1) fu _ (by omega) (by omega), sD_wL]
    congr 5
    funext j
    by_cases e : j = i
    · subst e
      rw [if_neg (by omega), if_pos ⟨Nat.le_refl j, by omega⟩, rL_s]
    · rw [rL_j e]
      by_cases q : i + 1 ≤ j ∧ j < 6
      · rw [if_pos q, if_pos ⟨by omega, q.2⟩]
      · rw [if_neg q, if_neg (by omega)]
abbrev clrX (μ : sM) : sM := wI (wI (wI (sD (wI (wI (wI (wI (wI (wI (wI μ 5 4 0 0) 5 4 1 1) 5 4 2 5) 5 4 3 4) 5 4 4 0) 5 4 5 0) 5 4 6 0) 34 4 (fun j => if j < 6 then 0 else rL μ 34 4 j)) 4 4 0 0) 3 4 0 0) 11 4 0 0
theorem clear_e (μ : sM) : X4_clear 4 μ = some (clrX μ) := by
  unfold X4_clear
  have h := clear_l 6 0 fuN (wI (wI (wI (wI (wI (wI (wI μ 5 4 0 0) 5 4 1 1) 5 4 2 5) 5 4 3 4) 5 4 4 0) 5 4 5 0) 5 4 6 0) (by omega) (fuN_6 (by omega))
  rw [nI_0] at h
  rw [h]
  congr 5
  funext j
  simp only [Nat.zero_le, true_and]
  rfl
theorem empt_l {a : Nat} (ha : a < 5) : ∀ (k i fu : Nat) (ν : sM), i + k = 348 → k < fu → X12_empties_L8 fu (nI (348 * a)) (nI i) ν = some (wI (wI (wI (sC ν 61 0 (fun q => if 348 * a + i ≤ q ∧ q < 348 * a + 348 then 0 else rI ν 61 0 q)) 61 0 (348 * a + 3) 1) 61 0 (348 * a + 4) 5) 61 0 (348 * a + 5) 4)
  | 0, i, fu + 1, ν, h, _ => by
    unfold X12_empties_L8
    rw [if_pos (show (348 : Int32) ≤ nI i from nI_le (a := 348) (by omega) (by omega)), show (3 : Int32) = nI 3 from rfl, show (4 : Int32) = nI 4 from rfl, show (5 : Int32) = nI 5 from rfl, nI_add, nI_add, nI_add, if_pos (inb_nI (by omega) (by omega)), if_pos (inb_nI (by omega) (by omega)), if_pos (inb_nI (by omega) (by omega)), ix_nI (by omega), ix_nI (by omega), ix_nI (by omega), sC_id]
    intro j
    rw [if_neg (by omega)]
  | k + 1, i, fu + 1, ν, h, hf => by
    rw [X12_empties_L8]
    rw [if_neg (show ¬ (348 : Int32) ≤ nI i from nI_ge (b := 348) (by omega) (by omega)), nI_add, if_pos (inb_nI (by omega) (by omega)), ix_nI (by omega), nI_1, empt_l ha k (i + 1) fu _ (by omega) (by omega), sC_wI]
    congr 5
    funext j
    by_cases e : j = 348 * a + i
    · subst e
      rw [if_neg (by omega), if_pos (by omega), rI_s]
    · rw [rI_j e]
      by_cases q : 348 * a + (i + 1) ≤ j ∧ j < 348 * a + 348
      · rw [if_pos q, if_pos (by omega)]
      · rw [if_neg q, if_neg (by omega)]
abbrev empM (ν : sM) (a : Nat) : sM := wI (wI (wI (sC ν 61 0 (fun q => if 348 * a ≤ q ∧ q < 348 * a + 348 then 0 else rI ν 61 0 q)) 61 0 (348 * a + 3) 1) 61 0 (348 * a + 4) 5) 61 0 (348 * a + 5) 4
theorem empt_e {a : Nat} (ha : a < 5) (ν : sM) : X12_empties (nI a) ν = some (empM ν a) := by
  unfold X12_empties
  have h := empt_l ha 348 0 fuN ν (by omega) (fuN_6 (by omega))
  rw [nI_0, Nat.add_zero] at h
  rw [show (348 : Int32) * nI a = nI (348 * a) by rw [show (348 : Int32) = nI 348 from rfl, pk_mul], h]
abbrev rdX (μ : sM) : sM := clrX (wI (wR (wR μ 6 0 0 (0 + 1)) 6 0 1 (4 + 1)) 6 0 3 0)
abbrev rdM (ν : sM) : sM := wI (empM ν 4) 13 0 25 0
def f00 (j : Nat) : Int32 := if j = 3 then 1 else if j = 4 then 5 else if j = 5 then 4 else 0
theorem rdM_f : ∀ j, j < 348 → rI (rdM ν) 61 0 (348 * 4 + j) = f00 j := by
  intro j hj
  unfold f00
  rw [rI_k (by decide)]
  by_cases c5 : j = 5
  · subst c5
    exact rI_s
  · rw [rI_j (by omega)]
    by_cases c4 : j = 4
    · subst c4
      exact rI_s
    · rw [rI_j (by omega)]
      by_cases c3 : j = 3
      · subst c3
        exact rI_s
      · rw [rI_j (by omega), sC_s, if_pos (by omega), if_neg c3, if_neg c4, if_neg c5]
theorem ok00 : OkR 0 f00 := by
  refine ⟨⟨?_, ?_, ?_⟩, ⟨?_, ?_, ?_, ?_, ?_, ?_, ?_⟩, fun j hj => ?_, fun j hj => ?_, fun j hj => ?_, fun j hj => ?_⟩
  · unfold rg f00; decide +kernel
  · unfold rg f00; decide +kernel
  · unfold rg f00; decide +kernel
  · unfold rg f00; decide +kernel
  · unfold rg f00; decide +kernel
  · unfold rg f00; decide +kernel
  · unfold rg f00; decide +kernel
  · exact Or.inl rfl
  · unfold rg f00; decide +kernel
  · unfold rg f00; decide +kernel
  · have e : f00 (10 + j) = 0 := by unfold f00; rw [if_neg (by omega), if_neg (by omega), if_neg (by omega)]
    rw [e]
    unfold rg f00
    decide +kernel
  · exact absurd hj (by rw [show (f00 0).toInt = 0 from rfl]; omega)
  · exact absurd hj (by rw [show (f00 1).toInt = 0 from rfl]; omega)
  · exact absurd hj (by rw [show (f00 2).toInt = 0 from rfl]; omega)
theorem riv00 : Riv (rdX μ) 4 f00 := by
  refine ⟨⟨?_, ?_, ?_, ?_, ?_, ?_, ?_, ?_, ?_, ?_⟩, fun j hj => ?_, fun j hj => ?_, fun j hj => ?_, fun j hj => ?_⟩
  · rw [rI_k (by decide), rI_k (by decide), rI_s]; rfl
  · rw [rI_k (by decide), rI_s]; rfl
  · rw [rI_s]; rfl
  · rw [rI_k (by decide), rI_k (by decide), rI_k (by decide), rI_sD, rI_j (by decide), rI_j (by decide), rI_j (by decide), rI_j (by decide), rI_j (by decide), rI_s]; rfl
  · rw [rI_k (by decide), rI_k (by decide), rI_k (by decide), rI_sD, rI_j (by decide), rI_j (by decide), rI_j (by decide), rI_j (by decide), rI_s]; rfl
  · rw [rI_k (by decide), rI_k (by decide), rI_k (by decide), rI_sD, rI_j (by decide), rI_j (by decide), rI_j (by decide), rI_s]; rfl
  · rw [rI_k (by decide), rI_k (by decide), rI_k (by decide), rI_sD, rI_j (by decide), rI_j (by decide), rI_s]; rfl
  · rw [rI_k (by decide), rI_k (by decide), rI_k (by decide), rI_sD, rI_s]; rfl
  · rw [rI_k (by decide), rI_k (by decide), rI_k (by decide), rI_sD, rI_j (by decide), rI_s]; rfl
  · rw [rI_k (by decide), rI_k (by decide), rI_k (by decide), rI_sD, rI_j (by decide), rI_j (by decide), rI_j (by decide), rI_j (by decide), rI_j (by decide), rI_j (by decide), rI_s]; rfl
  · have e : f00 (10 + j) = 0 := by unfold f00; rw [if_neg (by omega), if_neg (by omega), if_neg (by omega)]
    rw [e, rL_wI, rL_wI, rL_wI, sD_s, if_pos hj]
    rfl
  · exact absurd hj (by rw [show (f00 0).toInt = 0 from rfl]; omega)
  · exact absurd hj (by rw [show (f00 1).toInt = 0 from rfl]; omega)
  · exact absurd hj (by rw [show (f00 2).toInt = 0 from rfl]; omega)
theorem RV_0 : RV (rdX μ) (rdM ν) := by
  have e : ∀ j, j < 76 → rI (rdM ν) 61 0 (348 * 4 + j) = f00 j := fun j hj => rdM_f j (by omega)
  have z0 : (rI (rdM ν) 61 0 1392).toInt = 0 := by rw [show (1392 : Nat) = 348 * 4 + 0 from rfl, e 0 (by omega)]; rfl
  have z1 : (rI (rdM ν) 61 0 1393).toInt = 0 := by rw [show (1393 : Nat) = 348 * 4 + 1 from rfl, e 1 (by omega)]; rfl
  have z2 : (rI (rdM ν) 61 0 1394).toInt = 0 := by rw [show (1394 : Nat) = 348 * 4 + 2 from rfl, e 2 (by omega)]; rfl
  refine ⟨⟨Riv_c riv00 (fun _ _ _ => ⟨rfl, rfl⟩) e (by decide +kernel) (by decide +kernel) (by decide +kernel), OkR_c ok00 e, ⟨fun j hj => ?_, fun j hj => ?_, fun j hj => ?_⟩, ?_⟩, ⟨?_, ?_, ?_⟩, fun j hj => ?_⟩
  · have : (j : Int) < (rI (rdM ν) 61 0 1392).toInt := hj
    omega
  · have : (j : Int) < (rI (rdM ν) 61 0 1393).toInt := hj
    omega
  · have : (j : Int) < (rI (rdM ν) 61 0 1394).toInt := hj
    omega
  · rw [e 6 (by omega)]; decide +kernel
  · rw [rI_s, rI_k (by decide), rI_k (by decide), rI_k (by decide), rI_sD, rI_k (by decide), rI_k (by decide), rI_k (by decide), rI_k (by decide), rI_k (by decide), rI_k (by decide), rI_k (by decide), rI_s]
  · simp [rR_wR, sD, rR, wI, wR]
  · simp [rR_wR, sD, rR, wI, wR]
  · rw [show 1392 + j = 348 * 4 + j from rfl, rdM_f j (by omega)]
    unfold f00
    rw [if_neg (by omega), if_neg (by omega), if_neg (by omega)]
/-! what reading leaves alone, all in all -/
def qXall (k i _ : Nat) : Bool := !(k == 7 || (k == 36 || (k == 37 || (k == 38 || (k == 6 || (rk k && i == 4))))))
def qMall (k _ j : Nat) : Bool := !((k == 13 && (Nat.ble j 1 || ((Nat.ble 8 j && Nat.ble j 19) || j == 25))) || ((k == 61 && Nat.ble 1392 j) || (k == 64 && Nat.ble 72 j)))
def qQ (k i j : Nat) : Bool := qF k i j || (qT k i j || (qV k i j || (qK k i j || (qR 0 0 k i j || qW 0 0 k i j))))
theorem qQ_x : ∀ k i j, qQ k i j = true → qXall k i j = true := by
  intro k i j h
  unfold qXall
  by_cases z : k = 7 ∨ k = 36 ∨ k = 37 ∨ k = 38 ∨ k = 6 ∨ (rk k = true ∧ i = 4)
  · exfalso
    unfold qQ qF qT qV qK qR qW at h
    simp only [Bool.or_eq_true, Bool.and_eq_true, beq_iff_eq, Nat.ble_eq, rk] at h z
    omega
  · cases e : (k == 7 || (k == 36 || (k == 37 || (k == 38 || (k == 6 || (rk k && i == 4)))))) with
    | false => rfl
    | true =>
      exfalso
      apply z
      simpa only [Bool.or_eq_true, Bool.and_eq_true, beq_iff_eq] using e
theorem qQ_m : ∀ k i j, qQ k i j = true → qMall k i j = true := by
  intro k i j h
  unfold qMall
  by_cases z : (k = 13 ∧ (j ≤ 1 ∨ (8 ≤ j ∧ j ≤ 19) ∨ j = 25)) ∨ (k = 61 ∧ 1392 ≤ j) ∨ (k = 64 ∧ 72 ≤ j)
  · exfalso
    unfold qQ qF qT qV qK qR qW at h
    simp only [Bool.or_eq_true, Bool.and_eq_true, beq_iff_eq, Nat.ble_eq, rk] at h
    omega
  · cases e : ((k == 13 && (Nat.ble j 1 || ((Nat.ble 8 j && Nat.ble j 19) || j == 25))) || ((k == 61 && Nat.ble 1392 j) || (k == 64 && Nat.ble 72 j))) with
    | false => rfl
    | true =>
      exfalso
      apply z
      simpa only [Bool.or_eq_true, Bool.and_eq_true, beq_iff_eq, Nat.ble_eq] using e
theorem qXall_b : ∀ k i j, qXall k i j = true → qXb k i j = true := by
  intro k i j h
  unfold qXall at h
  unfold qXb
  by_cases a : k = 7
  · subst a; cases h
  by_cases b : k = 36
  · subst b; cases h
  by_cases c : k = 37
  · subst c; cases h
  by_cases d : k = 38
  · subst d; cases h
  simp [a, b, c, d]
theorem qXall_r : ∀ k i j, qXall k i j = true → qXr k i j = true := by
  intro k i j h
  unfold qXall at h
  unfold qXr
  by_cases a : k = 7
  · subst a; cases h
  by_cases b : k = 6
  · subst b; cases h
  cases e : (rk k && i == 4) with
  | true =>
    rw [e] at h
    simp at h
  | false => simp [a, b]
theorem qMall_b : ∀ k i j, qMall k i j = true → qMb k i j = true := by
  intro k i j h
  unfold qMall at h
  unfold qMb
  by_cases z : k = 13 ∧ (j ≤ 1 ∨ (8 ≤ j ∧ j ≤ 19))
  · exfalso
    obtain ⟨rfl, z⟩ := z
    rcases z with z | z
    · simp [Nat.ble_eq_true_of_le z] at h
    · simp [Nat.ble_eq_true_of_le z.1, Nat.ble_eq_true_of_le z.2] at h
  · cases e : (k == 13 && (Nat.ble j 1 || (Nat.ble 8 j && Nat.ble j 19))) with
    | false => rfl
    | true =>
      exfalso
      apply z
      simpa only [Bool.or_eq_true, Bool.and_eq_true, beq_iff_eq, Nat.ble_eq] using e
theorem qMall_r : ∀ k i j, qMall k i j = true → qMr k i j = true := by
  intro k i j h
  unfold qMall at h
  unfold qMr
  by_cases z : (k = 13 ∧ ((12 ≤ j ∧ j ≤ 19) ∨ j = 25)) ∨ (k = 61 ∧ 1392 ≤ j) ∨ (k = 64 ∧ 72 ≤ j)
  · exfalso
    rcases z with ⟨rfl, z⟩ | ⟨rfl, z⟩ | ⟨rfl, z⟩
    · rcases z with z | z
      · simp [Nat.ble_eq_true_of_le (show 8 ≤ j by omega), Nat.ble_eq_true_of_le z.2] at h
      · simp [z] at h
    · simp [Nat.ble_eq_true_of_le z] at h
    · simp [Nat.ble_eq_true_of_le z] at h
  · cases e : ((k == 13 && ((Nat.ble 12 j && Nat.ble j 19) || j == 25)) || ((k == 61 && Nat.ble 1392 j) || (k == 64 && Nat.ble 72 j))) with
    | false => rfl
    | true =>
      exfalso
      apply z
      simpa only [Bool.or_eq_true, Bool.and_eq_true, beq_iff_eq, Nat.ble_eq] using e
theorem kq_clr {P : Nat → Nat → Nat → Bool} (h : ∀ k j, rk k = true → P k 4 j = false) (h6 : ∀ j, P 6 0 j = false) : kq P μ (rdX μ) := by
  refine kq_wI (h _ _ rfl) (kq_wI (h _ _ rfl) (kq_wI (h _ _ rfl) (kq_sD (fun j => h _ _ rfl) (kq_wI (h _ _ rfl) (kq_wI (h _ _ rfl) (kq_wI (h _ _ rfl) (kq_wI (h _ _ rfl) (kq_wI (h _ _ rfl) (kq_wI (h _ _ rfl) (kq_wI (h _ _ rfl) (kq_wI (h6 _) (kq_wR (kq_wR kq_r)))))))))))))
theorem kq_emp {P : Nat → Nat → Nat → Bool} (h : ∀ j, 1392 ≤ j → P 61 0 j = false) (h25 : P 13 0 25 = false) : kq P ν (rdM ν) := by
  refine kq_wI h25 (kq_wI (h _ (by omega)) (kq_wI (h _ (by omega)) (kq_wI (h _ (by omega)) (kq_sC (fun j hj => ?_) kq_r))))
  by_cases c : 348 * 4 ≤ j ∧ j < 348 * 4 + 348
  · rw [h j (by omega)] at hj
    cases hj
  · rw [if_neg c]
theorem qXall4 : ∀ k j, rk k = true → qXall k 4 j = false := by
  intro k j h
  unfold qXall
  simp [h]
theorem qMall61 : ∀ j, 1392 ≤ j → qMall 61 0 j = false := by
  intro j h
  unfold qMall
  simp [Nat.ble_eq_true_of_le h]
theorem CS_rd {b : Nat → Int32} {i m K s : Nat} {V : Int64} (h : CS μ ν b n i m K V s) : CS (rdX μ) (rdM ν) b n i m K V s := by
  refine CS_c h ?_ ?_
  · refine kq_clr (fun k j hk => ?_) (fun j => rfl)
    by_cases a : k = 7
    · subst a; cases hk
    by_cases b : k = 36
    · subst b; cases hk
    by_cases c : k = 37
    · subst c; cases hk
    by_cases d : k = 38
    · subst d; cases hk
    simp [a, b, c, d]
  · exact kq_emp (fun j hj => rfl) rfl
theorem rl_Q (h : Rel B μ ν) {μ' ν' : sM} {B' : Int} (a : kq qQ μ μ') (c : kq qQ ν ν') (hb : B ≤ B') (s : rI μ' 12 0 0 = rI ν' 13 0 0) (hP : RelP μ' ν') : Rel B' μ' ν' := by
  obtain ⟨h0, h1, h2, h3, h4, h5, h6, h7⟩ := h
  have m1 : ∀ k i j, qF k i j = true → qQ k i j = true := fun k i j h => by unfold qQ; simp [h]
  have m2 : ∀ k i j, qT k i j = true → qQ k i j = true := fun k i j h => by unfold qQ; simp [h]
  have m3 : ∀ k i j, qV k i j = true → qQ k i j = true := fun k i j h => by unfold qQ; simp [h]
  have m4 : ∀ k i j, qK k i j = true → qQ k i j = true := fun k i j h => by unfold qQ; simp [h]
  have m5 : ∀ k i j, qR 0 0 k i j = true → qQ k i j = true := fun k i j h => by unfold qQ; simp [h]
  have m6 : ∀ k i j, qW 0 0 k i j = true → qQ k i j = true := fun k i j h => by unfold qQ; simp [h]
  exact ⟨s, RelF_c h1 (kq_m a m1) (kq_m c m1), RelT_c h2 (kq_m a m2) (kq_m c m2), hP, RelR_c h4 (kq_m a m5) (kq_m c m5) hb, RelW_c h5 (kq_m a m6) (kq_m c m6), RelK_c h6 (kq_m a m4) (kq_m c m4) hb, RelV_c h7 (kq_m a m3) (kq_m c m3)⟩
theorem RelP_0 {μ' ν' : sM} (a1 : rI μ' 7 0 1 = 0) (b1 : rI ν' 13 0 8 = 0) (e2 : rI μ' 7 0 2 = rI ν' 13 0 10) (e3 : rI μ' 7 0 3 = rI ν' 13 0 11) : RelP μ' ν' := by
  refine ⟨⟨by rw [a1, b1], ?_, fun j hj => ?_⟩, e2, e3⟩
  · rw [b1]
    unfold rg
    rw [t0]
    omega
  · rw [b1, t0] at hj
    omega
theorem wellB {f s : Nat} (f1 : 1 ≤ f) (f7 : f ≤ 7) (h : rI ν 13 0 12 = nI f) (h' : rI ν 13 0 13 = nI s) : X12_isWell ν = some (0, wI (wI (wI ν 13 0 10 (nI f)) 13 0 11 (nI s)) 13 0 0 10) := by
  have q := (fs_pos f1 f7).2.1
  unfold X12_isWell X12_isWell_J24
  rw [h, if_neg q, rI_j (by decide), h, if_neg q, h']
  rfl
theorem wellG (h : rI ν 13 0 12 = 0) : X12_isWell ν = some (1, wI (wI ν 13 0 10 0) 13 0 11 (-1)) := by
  unfold X12_isWell X12_isWell_J24
  rw [h, if_pos rfl, rI_j (by decide), h, if_pos rfl]
theorem m_river (hB : 0 ≤ B ∧ B ≤ 900000000) (a : Int32) : BoI B (X11_river a) (X12_river a) := fun μ ν h => by
  have hP := h.2.2.2.1
  obtain ⟨F, hF, F9, hF'⟩ := rg_nI (b := 900) hP.1.2.1
  unfold X11_river X12_river X12_starts
  simp only [lt_i, le_i, t0, show (900 : Int32).toInt = 900 from rfl]
  have e8 : rI (m0 ν) 13 0 8 = rI ν 13 0 8 := by rw [rI_j (by decide), rI_j (by decide)]
  rw [hP.1.1, e8]
  by_cases c1 : 0 ≤ a.toInt ∧ a.toInt ≤ (rI ν 13 0 8).toInt
  · obtain ⟨n, rfl, hn, hn'⟩ := rg_nI (x := a) (b := 900) ⟨by omega, by omega⟩
    obtain ⟨μ1, ν1, m, K, V, s, e1, e2, C1, x1, y8, y0, k1, k2⟩ := start2 (n := n) h (by omega)
    have R1 : RV (rdX μ1) (rdM ν1) := RV_0
    have C2 := CS_rd C1
    rw [if_neg (show ¬ (nI n).toInt < 0 by omega), if_pos c1.2, e1, bV_s, if_neg (show ¬ (nI n).toInt < 0 by omega), if_neg (show ¬ (rI ν 13 0 8).toInt < (nI n).toInt by omega), if_pos (show (nI n).toInt ≤ 900 by omega), e2, bV_s, bI_s, if_neg n10]
    have eE : X12_empties 4 ν1 = some (empM ν1 4) := empt_e (a := 4) (by omega) ν1
    rw [eE, bV_s, show X0_spare μ1 = some (4, μ1) from rfl, bA_s]
    have eI : X5_readInto 4 μ1 = X5_readInto_L24 fuN (nI 0) (rdX μ1) := by
      unfold X5_readInto
      rw [if_pos (by decide), clear_e, bV_s]
      rfl
    rw [eI]
    have X1 : kq qXall μ (rdX μ1) := kq_t (kq_m k1 qXall_b) (kq_clr qXall4 (fun j => rfl))
    have M1 : kq qMall ν (rdM ν1) := kq_t (kq_m k2 qMall_b) (kq_emp qMall61 rfl)
    have x71 : rI (rdX μ1) 7 0 1 = 0 := by
      rw [rI_k (by decide), rI_k (by decide), rI_k (by decide), rI_sD, rI_k (by decide), rI_k (by decide), rI_k (by decide), rI_k (by decide), rI_k (by decide), rI_k (by decide), rI_k (by decide), rI_k (by decide)]
      exact x1
    have y81 : rI (rdM ν1) 13 0 8 = 0 := by
      rw [rI_j (by decide), rI_k (by decide), rI_k (by decide), rI_k (by decide), sC_k (by decide)]
      exact y8
    have y01 : rI (rdM ν1) 13 0 0 = 0 := by
      rw [rI_j (by decide), rI_k (by decide), rI_k (by decide), rI_k (by decide), sC_k (by decide)]
      exact y0
    rcases rdAll n 0 0 fuN fuN (rdX μ1) (rdM ν1) m K s V (by omega) (fuN_6 (by omega)) (fuN_6 (by omega)) (by omega) C2 R1 with ⟨μ', ν', w1, w2, R', w4, ⟨w5, w5'⟩, f', g'⟩ | ⟨μ', ν', w1, w2, r, f', g'⟩
    · have X2 : kq qXall μ μ' := kq_t X1 (kq_m f'.1 qXall_r)
      have M2 : kq qMall ν ν' := kq_t M1 (kq_m g' qMall_r)
      obtain ⟨μ8, c8, R8, n0, n1', n2'⟩ := copyR (a := 0) R'.1.1 R'.1.2.1 (show 4 ≠ 0 by omega)
      have k8 := X4_copyFrom_fr 0 4 μ' μ8 c8
      have M3 : kq qMall ν (wI (wI ν' 13 0 10 0) 13 0 11 (-1)) := kq_wI rfl (kq_wI rfl M2)
      have eC : X12_copy 4 0 (wI (wI ν' 13 0 10 0) 13 0 11 (-1)) = some (cpB (wI (wI ν' 13 0 10 0) 13 0 11 (-1)) 4 0) := copyM (a := 4) (b := 0) (by omega) (by omega) (by omega) _
      have hm : ∀ j, j < 348 → rI (cpB (wI (wI ν' 13 0 10 0) 13 0 11 (-1)) 4 0) 61 0 (348 * 0 + j) = rI ν' 61 0 (348 * 4 + j) := fun j hj => by rw [cpB_m j hj, rI_k (by decide), rI_k (by decide)]
      have hn2 : ∀ j, j < 18 → rL (cpB (wI (wI ν' 13 0 10 0) 13 0 11 (-1)) 4 0) 64 0 (18 * 0 + j) = rL ν' 64 0 (18 * 4 + j) := fun j hj => by rw [cpB_n j hj]; rfl
      have kR : ∀ k j, rk k = true → rI (wI (wI (wI (wI μ8 9 0 0 0) 9 0 1 0) 9 0 2 0) 12 0 0 0) k 0 j = rI μ8 k 0 j ∧ rL (wI (wI (wI (wI μ8 9 0 0 0) 9 0 1 0) 9 0 2 0) 12 0 0 0) k 0 j = rL μ8 k 0 j := by
        intro k j hk
        have a12 : k ≠ 12 := fun q => by rw [q] at hk; cases hk
        have a9 : k ≠ 9 := fun q => by rw [q] at hk; cases hk
        exact ⟨by rw [rI_k a12, rI_k a9, rI_k a9, rI_k a9], rfl⟩
      have RR := RelR_t (μ' := wI (wI (wI (wI μ8 9 0 0 0) 9 0 1 0) 9 0 2 0) 12 0 0 0) (r' := 0) (b' := 0) R'.1 (Riv_x R8 R'.1.2.1 kR) n0 n1' n2' hm hn2
      have c0e : rI μ8 4 0 0 = rI ν' 61 0 1392 := R8.1.1
      have k12 : ∀ {P : Nat → Nat → Nat → Bool}, (∀ k i j, P k i j = true → qQ k i j = true) → (∀ k i j, P k i j = true → nC 0 k i = true) → P 12 0 0 = false → kq P μ (wI (wI (wI (wI μ8 9 0 0 0) 9 0 1 0) 9 0 2 0) 12 0 0 0) := by
        intro P p1 p2 p3
        have pn : ∀ j, P 9 0 j = false := by
          intro j
          cases z : P 9 0 j with
          | false => rfl
          | true => have := p2 9 0 j z; cases this
        exact kq_wI p3 (kq_wI (pn 2) (kq_wI (pn 1) (kq_wI (pn 0) (kq_t (kq_m X2 (fun k i j z => qQ_x k i j (p1 k i j z))) (kq_k k8 (fun k i j z => by
          have := p2 k i j z
          unfold nC at this
          rw [Bool.and_eq_true] at this
          exact this.1))))))
      have kM : ∀ {P : Nat → Nat → Nat → Bool}, (∀ k i j, P k i j = true → qQ k i j = true) → (∀ q, q < 348 → P 61 0 q = false) → (∀ q, q < 18 → P 64 0 q = false) → kq P ν (cpB (wI (wI ν' 13 0 10 0) 13 0 11 (-1)) 4 0) := fun p1 p2 p3 => kq_cpB (fun q _ h2 => p2 q (by omega)) (fun q _ h2 => p3 q (by omega)) (kq_m M3 (fun k i j z => qQ_m k i j (p1 k i j z)))
      rw [show X5_readInto_L24 fuN (nI 0) (rdX μ1) = some (1, μ') from w1, bI_s, if_neg n10, c8, bV_s]
      rw [show X12_river_L33 fuN (wI (empM ν1 4) 13 0 25 0) = X12_river_J64 ν' from w2]
      unfold X12_river_J64
      rw [wellG w4, bI_s, if_neg n10, eC, bV_s, show X8_forget 0 μ8 = some (wI (wI (wI μ8 9 0 0 0) 9 0 1 0) 9 0 2 0) from rfl, bV_s]
      refine ⟨rI ν' 61 0 1392, wI (wI (wI (wI μ8 9 0 0 0) 9 0 1 0) 9 0 2 0) 12 0 0 0, cpB (wI (wI ν' 13 0 10 0) 13 0 11 (-1)) 4 0, ?_, ?_, ?_⟩
      · show some (rI (wI (wI (wI μ8 9 0 0 0) 9 0 1 0) 9 0 2 0) 4 0 0, _) = _
        rw [rI_k (by decide), rI_k (by decide), rI_k (by decide), c0e]
      · have := hm 0 (by omega)
        rw [show rI (cpB (wI (wI ν' 13 0 10 0) 13 0 11 (-1)) 4 0) 61 0 0 = rI ν' 61 0 1392 from this]
      · obtain ⟨-, h1, h2, -, -, -, h6, h7⟩ := h
        have i1 : ∀ k i j, qF k i j = true → qQ k i j = true := fun k i j h => by unfold qQ; simp [h]
        have i2 : ∀ k i j, qT k i j = true → qQ k i j = true := fun k i j h => by unfold qQ; simp [h]
        have i3 : ∀ k i j, qV k i j = true → qQ k i j = true := fun k i j h => by unfold qQ; simp [h]
        have i4 : ∀ k i j, qK k i j = true → qQ k i j = true := fun k i j h => by unfold qQ; simp [h]
        have kc : ∀ k i j, qK k i j = true → nC 0 k i = true := by
          intro k i j hq
          unfold qK at hq
          simp only [Bool.or_eq_true, Bool.and_eq_true, beq_iff_eq, Nat.ble_eq] at hq
          rcases hq with ⟨rfl, -⟩ | ⟨rfl, -⟩ | ⟨hi, -⟩ | ⟨rfl, -⟩ | ⟨rfl, -⟩
          · exact nC_k ⟨rfl, rfl⟩
          · exact nC_k ⟨rfl, rfl⟩
          · exact nC_i (by omega)
          · exact nC_k ⟨rfl, rfl⟩
          · exact nC_k ⟨rfl, rfl⟩
        have k61 : ∀ q, q < 348 → qK 61 0 q = false := by
          intro q hq
          apply Bool.eq_false_iff.mpr
          intro z
          unfold qK rk at z
          simp only [Bool.or_eq_true, Bool.and_eq_true, beq_iff_eq, Nat.ble_eq] at z
          omega
        have k64 : ∀ q, q < 18 → qK 64 0 q = false := by
          intro q hq
          apply Bool.eq_false_iff.mpr
          intro z
          unfold qK rk at z
          simp only [Bool.or_eq_true, Bool.and_eq_true, beq_iff_eq, Nat.ble_eq] at z
          omega
        have z7 : ∀ j, rI (wI (wI (wI (wI μ8 9 0 0 0) 9 0 1 0) 9 0 2 0) 12 0 0 0) 7 0 j = rI μ' 7 0 j := fun j => by
          rw [rI_k (by decide), rI_k (by decide), rI_k (by decide), rI_k (by decide)]
          exact (k8 7 0 rfl j).1
        refine ⟨?_, RelF_c h1 (k12 i1 qF_c rfl) (kM i1 (fun _ _ => rfl) (fun _ _ => rfl)), RelT_c h2 (k12 i2 qT_c rfl) (kM i2 (fun _ _ => rfl) (fun _ _ => rfl)), RelP_0 ?_ ?_ ?_ ?_, RelR_c RR kq_r kq_r (by omega), ⟨?_, ?_, Or.inl ?_, ?_⟩, RelK_c h6 (k12 i4 kc rfl) (kM i4 k61 k64) (by omega), RelV_c h7 (k12 i3 qV_c rfl) (kM i3 (fun _ _ => rfl) (fun _ _ => rfl))⟩
        · rw [rI_s, cpB_k (by decide), rI_j (by decide), rI_j (by decide), (g' 13 0 0 rfl).1]
          exact y01.symm
        · rw [z7, (f'.1 7 0 1 rfl).1]
          exact x71
        · rw [cpB_k (by decide), rI_j (by decide), rI_j (by decide), (g' 13 0 8 rfl).1]
          exact y81
        · rw [z7, w5, cpB_k (by decide), rI_j (by decide), rI_s]
        · rw [z7, w5', cpB_k (by decide), rI_s]
        · rw [rI_k (by decide), rI_j (by decide), rI_j (by decide), rI_s, hm 76 (by omega)]
          exact (R'.2.2 76 (by omega)).symm
        · rw [rI_k (by decide), rI_j (by decide), rI_s, hm 77 (by omega)]
          exact (R'.2.2 77 (by omega)).symm
        · rw [rI_k (by decide), rI_j (by decide), rI_j (by decide), rI_s]
        · rw [rI_k (by decide), rI_s]
          unfold rg
          rw [t0]
          omega
    · have X2 : kq qXall μ μ' := kq_t X1 (kq_m f'.1 qXall_r)
      have M2 : kq qMall ν ν' := kq_t M1 (kq_m g' qMall_r)
      obtain ⟨f, s', f1, f7, q1, q2, q3, q4⟩ := r
      rw [show X5_readInto_L24 fuN (nI 0) (rdX μ1) = some (0, μ') from w1, bI_s, if_pos rfl]
      rw [show X12_river_L33 fuN (wI (empM ν1 4) 13 0 25 0) = X12_river_J64 ν' from w2]
      unfold X12_river_J64
      rw [wellB f1 f7 q3 q4, bI_s, if_pos rfl]
      refine ⟨-1, wI μ' 12 0 0 10, _, rfl, rfl, rl_Q h (kq_wI rfl (kq_m X2 qQ_x)) (kq_wI rfl (kq_wI rfl (kq_wI rfl (kq_m M2 qQ_m)))) (by omega) ?_ (RelP_0 ?_ ?_ ?_ ?_)⟩
      · rw [rI_s, rI_s]
      · rw [rI_k (by decide), (f'.1 7 0 1 rfl).1]
        exact x71
      · rw [rI_j (by decide), rI_j (by decide), rI_j (by decide), (g' 13 0 8 rfl).1]
        exact y81
      · rw [rI_k (by decide), q1, rI_j (by decide), rI_j (by decide), rI_s]
      · rw [rI_k (by decide), q2, rI_j (by decide), rI_s]
  · refine ⟨-1, _, _, ?_, ?_, re_b h 5⟩
    · by_cases c3 : a.toInt < 0
      · rw [if_pos c3]; rfl
      · rw [if_neg c3, if_neg (by omega)]; rfl
    · by_cases c3 : a.toInt < 0
      · rw [if_pos c3]; rfl
      · rw [if_neg c3, if_pos (by omega)]; rfl
end C98r
