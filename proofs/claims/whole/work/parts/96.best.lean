/-! 96: enough, bestGate, bestGround -/
section C96
variable {B : Int} {μ ν : sM} {f : Nat → Int32}
theorem qB_A : ∀ k i j, qB k i j = true → nA k i = true := by
  intro k i j h
  unfold nA
  by_cases z : k = 1 ∨ k = 21 ∨ k = 22 ∨ (rk k = true ∧ 4 ≤ i)
  · exfalso
    unfold rk at z
    unfold qB qA qF qT qP qN qW qK qV qR at h
    simp only [Bool.or_eq_true, Bool.and_eq_true, beq_iff_eq, Nat.ble_eq, rk] at h z
    omega
  · simp only [Bool.not_eq_true', Bool.or_eq_false_iff, Bool.and_eq_false_iff, beq_eq_false_iff_ne]
    refine ⟨fun q => z (Or.inl q), fun q => z (Or.inr (Or.inl q)), fun q => z (Or.inr (Or.inr (Or.inl q))), ?_⟩
    by_cases y : rk k = true
    · right
      apply Bool.eq_false_iff.mpr
      intro x
      rw [Nat.ble_eq] at x
      exact z (Or.inr (Or.inr (Or.inr ⟨y, x⟩)))
    · left
      simpa using y
theorem nA_0 {k i : Nat} (h : i < 4) (hk : k ≠ 1 ∧ k ≠ 21 ∧ k ≠ 22) : nA k i = true := by
  unfold nA
  have e : Nat.ble 4 i = false := by
    apply Bool.eq_false_iff.mpr
    intro x
    rw [Nat.ble_eq] at x
    omega
  rw [e]
  simp [hk]
theorem nA_r {k i : Nat} (h : i < 4) (hk : rk k = true) : nA k i = true := nA_0 h ⟨fun q => (by rw [q] at hk; cases hk), fun q => (by rw [q] at hk; cases hk), fun q => (by rw [q] at hk; cases hk)⟩
theorem Riv_A {μ' : sM} (h : Riv μ 0 f) (ok : OkR B f) (k : keep nA μ μ') : Riv μ' 0 f :=
  Riv_c h (fun a j ha => ⟨(k a 0 (nA_r (by omega) ha) j).1, (k a 0 (nA_r (by omega) ha) j).2.1⟩) (fun _ _ => rfl) ok.1.1.2 ok.1.2.1.2 ok.1.2.2.2
theorem nA_Q {r : Nat} (hr : 4 ≤ r) : ∀ k i, nA k i = true → nQ r k i = true := fun k i h => nR_nQ k i (nA_nR hr k i h)
theorem copy4 (hR : Riv μ 0 f) (ok : OkR B f) : ∃ μ1, X0_copyOf 0 μ = some (4, μ1) ∧ Riv μ1 4 f ∧ keep nA μ μ1 := by
  obtain ⟨μ1, e1, R1, -⟩ := copyR hR ok (a := 4) (by decide)
  refine ⟨μ1, ?_, R1, keep_m (X4_copyFrom_fr 4 0 μ μ1 e1) (nA_nR (by omega))⟩
  unfold X0_copyOf
  rw [e1, bV_s]
theorem en_l (hB : 0 ≤ B ∧ B ≤ 900000000) {p H : Nat} {W T : Int32} (ok : OkR B f) (h9 : (f 6).toInt ≤ 9999) (hp : (p : Int) < (f 1).toInt) (hH : H ≤ 100) : ∀ (k i fu : Nat) (μ ν : sM), i + k = 61 → k + 1 < fu → Riv μ 0 f → (∀ j, j < 76 → j ≠ 9 → rI ν 61 0 j = f j) →
    ∃ x μ' ν', X0_leastTurns_L3 fu 0 (nI p) (nI H) W (nI i) μ = some (x, μ') ∧ X12_enough_L68 fu (nI p) (nI H) W T (-1) (nI i) ν = X12_enough_J122 T x ν' ∧ keep nA μ μ' ∧ kM ν ν' ∧ (∀ j, j < 76 → j ≠ 9 → rI ν' 61 0 j = f j) ∧ rI ν' 13 0 0 = rI ν 13 0 0 ∧ (x = -1 ∨ 0 ≤ x.toInt)
  | 0, i, fu + 1, μ, ν, h, _, hR, a => by
    have g : (60 : Int32) < nI i := nI_lt (a := 60) (by omega) (by omega)
    refine ⟨-1, μ, ν, ?_, ?_, keep_r, kM_r, a, rfl, Or.inl rfl⟩
    · unfold X0_leastTurns_L3
      rw [if_pos g]
    · unfold X12_enough_L68
      rw [if_pos g]
  | k + 1, i, fu + 1, μ, ν, h, hf, hR, a => by
    have g : ¬ (60 : Int32) < nI i := nI_nlt (b := i) (a := 60) (by omega) (by omega)
    have c1 := ok.1.2.1
    unfold rg at c1
    have p6 : p < 6 := by omega
    have tx := nI_toInt (n := i) (by omega)
    obtain ⟨μ2, e1, R2, k2⟩ := copy4 hR ok
    have okv9 : okv B f 9 (nI i) := Or.inr (Or.inr (Or.inr (Or.inr (Or.inr (Or.inl ⟨rfl, by unfold rg; omega⟩)))))
    have R3 : Riv (wI μ2 5 4 0 (nI i)) 4 (upd f 9 (nI i)) := Riv_u (j := 9) R2 ⟨_, ok⟩ (by omega)
    have ok3 := OkR_u ok okv9
    have ew : ∀ j, j < 76 → rI (wI ν 61 0 9 (nI i)) 61 0 j = upd f 9 (nI i) j := by
      intro j hj
      by_cases z : j = 9
      · rw [z, rI_s, upd_s]
      · rw [rI_j z, upd_n z]
        exact a j hj z
    have ag3 : ag (pt (wI ν 61 0 9 (nI i))) (upd f 9 (nI i)) := fun j hj => by
      rw [sC_k (by decide)]
      exact ew j (by omega)
    obtain ⟨y, μ4, ν', f', e3, e4, R4, ok4, a4, s6, fr, -, k4, hi, kq4⟩ := tryN hB R3 ok3 ag3 (n := H) (by omega) (by rw [upd_n (by omega)]; omega)
    have z := cellIn_l (n := H) (by omega) (nI (46 + p)) H 0 fuN (pt (wI ν 61 0 9 (nI i))) (by omega) (fuN_6 (by omega)) e4
    rw [nI_0] at z
    have e5 : X12_cellIn (nI (46 + p)) (nI H) (wI ν 61 0 9 (nI i)) = some (f' (46 + p), gt ν') := by
      unfold X12_cellIn
      rw [puts_e, bV_s, z, if_pos (inb_nI (by omega) (by omega)), gives_e, bV_s, ix_nI (by omega), a4 (46 + p) (by omega)]
    have e6 : rI (gt ν') 61 0 (46 + p) = f (46 + p) := by
      rw [gt_c fr, ew _ (by omega), upd_n (by omega)]
    have K4 : keep nA μ μ4 := keep_t k2 (keep_t (keep_wI (nA_s (n := 0) rfl) keep_r) (keep_m kq4 (nA_Q (by omega))))
    have e7 : rI μ4 27 4 p = f' (46 + p) := (R4.2.2.2.1 p (by rw [k4 1 (by omega), upd_n (by omega)]; exact hp)).2.2
    have e8 : rI μ4 27 0 p = f (46 + p) := by
      rw [(K4 27 0 (nA_r (by omega) rfl) p).1]
      exact (hR.2.2.2.1 p hp).2.2
    have row : ∀ j, j < 76 → j ≠ 9 → rI (gt ν') 61 0 j = f j := fun j hj hne => by rw [gt_c fr, ew j hj, upd_n hne]
    have KM : kM ν (gt ν') := kM_gt (kM_t (kM_pt (kM_wI (Or.inr ⟨rfl, rfl, by omega⟩) kM_r)) (kM_m fr))
    have st : rI (gt ν') 13 0 0 = rI ν 13 0 0 := by rw [(gt_o fr (by decide)).1, rI_k (by decide)]
    by_cases c : f' (46 + p) - f (46 + p) < W
    · obtain ⟨x, μ', ν'', a1, a2, a3, a5, a6, a7, a8⟩ := en_l hB ok h9 hp hH k (i + 1) fu μ4 (gt ν') (by omega) (by omega) (Riv_A hR ok K4) row
      refine ⟨x, μ', ν'', ?_, ?_, keep_t K4 a3, kM_t KM a5, a6, a7.trans st, a8⟩
      · unfold X0_leastTurns_L3
        rw [if_neg g, e1, bA_s, e3, bI_s, if_pos (inb_nI p6 (by omega)), if_pos (inb_nI p6 (by omega)), ix_nI (by omega), e7, e8, if_pos c, nI_1, a1]
      · rw [X12_enough_L68]
        rw [if_neg g, if_neg m1_n, l46, e5, bI_s, if_pos (inb_nI (by omega) (by omega)), ix_nI (by omega), e6, if_pos c]
        unfold X12_enough_J116
        rw [nI_1, a2]
    · have g2 : (0 : Int32) ≤ nI i := nI_pos' (by omega)
      refine ⟨nI i, μ4, gt ν', ?_, ?_, K4, KM, row, st, Or.inr (by omega)⟩
      · unfold X0_leastTurns_L3
        rw [if_neg g, e1, bA_s, e3, bI_s, if_pos (inb_nI p6 (by omega)), if_pos (inb_nI p6 (by omega)), ix_nI (by omega), e7, e8, if_neg c]
      · obtain ⟨fu', rfl⟩ : ∃ f, fu = f + 1 := ⟨fu - 1, by omega⟩
        rw [X12_enough_L68]
        rw [if_neg g, if_neg m1_n, l46, e5, bI_s, if_pos (inb_nI (by omega) (by omega)), ix_nI (by omega), e6, if_neg c]
        unfold X12_enough_J116
        rw [nI_1]
        unfold X12_enough_L68
        by_cases d : (60 : Int32) < nI (i + 1)
        · rw [if_pos d]
        · rw [if_neg d, if_pos g2]
theorem m_enough (hB : 0 ≤ B ∧ B ≤ 900000000) (a b c : Int32) : BoI B (X11_enough a b c) (X12_enough a b c) := fun μ ν h => by
  obtain ⟨-, hR, ok, h9, hx⟩ := Rel_i h
  have u := ok.1.2.1
  unfold rg at u
  unfold X11_enough X12_enough
  rw [hasM_e, bI_s, isM_e _ _ (by rw [m0_k (by decide)]; omega), bI_s, hR.1.2.1, m0_k (by decide)]
  by_cases c1 : 0 ≤ a.toInt ∧ a.toInt < (rI ν 61 0 1).toInt
  · obtain ⟨p, rfl, hp, hp'⟩ := seg_nI c1.1 (n := 6) (by omega) (by omega)
    rw [if_pos c1, if_neg n10, if_neg n10, isIn_i, bI_s, isIn_i, bI_s, tX]
    simp only [lt_i, le_i, t0, show (0 : Int64).toInt = 0 from rfl, show (100 : Int64).toInt = 100 from rfl, show (100 : Int32).toInt = 100 from rfl]
    by_cases c2 : 0 ≤ b.toInt ∧ b.toInt ≤ 100
    · have f1 : ¬ b.toInt < 0 := by omega
      have f2 : ¬ 100 < b.toInt := by omega
      rw [if_neg f1, if_neg f2, if_pos c2, if_neg n10]
      by_cases c3 : 0 ≤ c.toInt ∧ c.toInt ≤ b.toInt
      · have f3 : ¬ c.toInt < 0 := by omega
        obtain ⟨H, rfl, hH, hH'⟩ := seg_nI c2.1 (n := 101) (by omega) (by omega)
        obtain ⟨x, μ', ν', a1, a2, a3, a5, a6, a7, a8⟩ := en_l hB (W := c) (T := rI ν 61 0 9) ok h9 (p := p) (by omega) (H := H) (by omega) 61 0 fuN μ (m0 ν) (by omega) (fuN_6 (by omega)) hR (fun j _ _ => m0_k (by decide))
        rw [nI_0] at a1 a2
        unfold X0_leastTurns
        rw [if_neg f3, if_pos c3.2, if_pos c3, if_neg n10, a1, bI_s, any_e a8, bI_s, m0_k (by decide), a2]
        have row : ∀ j, j < 76 → rI (wI ν' 61 0 9 (rI ν 61 0 9)) 61 0 j = rI ν 61 0 j := by
          intro j hj
          by_cases z : j = 9
          · rw [z, rI_s]
          · rw [rI_j z, a6 j hj z]
        have KM : kM ν (wI ν' 61 0 9 (rI ν 61 0 9)) := kM_wI (Or.inr ⟨rfl, rfl, by omega⟩) (kM_t (kM_q m0_q) a5)
        have Q : kq qB μ μ' := kq_k a3 qB_A
        have st : rI (wI ν' 61 0 9 (rI ν 61 0 9)) 13 0 0 = 0 := by rw [rI_k (by decide), a7, rI_s]
        unfold X12_enough_J122
        simp only [le_i, t0]
        by_cases d : 0 ≤ x.toInt
        · rw [if_pos d, if_pos d]
          exact ⟨x, _, _, rfl, rfl, Rel_k h Q KM row st⟩
        · rw [if_neg d, if_neg d, a8.resolve_right d]
          refine ⟨-1, _, _, rfl, rfl, Rel_k h Q (kM_wI (Or.inl rfl) KM) (fun j hj => ?_) rI_s⟩
          rw [rI_k (by decide)]
          exact row j hj
      · refine ⟨-1, _, _, ?_, ?_, re_b h 5⟩
        · by_cases d : c.toInt < 0
          · rw [if_pos d]; rfl
          · rw [if_neg d, if_neg (by omega)]; rfl
        · rw [if_neg c3]; rfl
    · refine ⟨-1, _, _, ?_, ?_, re_b h 5⟩
      · by_cases d : b.toInt < 0
        · rw [if_pos d]; rfl
        · rw [if_neg d, if_pos (by omega)]; rfl
      · rw [if_neg c2]; rfl
  · refine ⟨-1, _, _, ?_, ?_, re_b h 2⟩
    · rw [if_neg c1]; rfl
    · rw [if_neg c1]; rfl
/-! the best gate -/
theorem bg_h {p H : Nat} (hH : H ≤ 1000) {k14 : Int32 → Int32 → Int32 → Int32 → sM → Option (Int32 × sM)} {v3 v4 : Int32} : ∀ (k i fu : Nat) (v5 : Int32) (ν : sM) {g : Int32} {ν' : sM}, i + k = H → k < fu → HM k ν = some (g, ν') →
    X12_bestOf_L38 k14 fu (nI p) (nI H) v3 v4 v5 (nI i) ν = if rI (gt ν') 13 0 29 < v5 + g then k14 (nI p) (nI H) v4 (v4 + 1) (wI (gt ν') 13 0 29 (v5 + g)) else k14 (nI p) (nI H) v3 (v4 + 1) (gt ν')
  | 0, i, fu + 1, v5, ν, g, ν', h, _, e => by
    cases e
    unfold X12_bestOf_L38
    rw [if_pos (nI_le (by omega) (by omega)), gives_e, bV_s, Int32.add_zero]
    rfl
  | k + 1, i, fu + 1, v5, ν, g, ν', h, hf, e => by
    unfold HM at e
    obtain ⟨x, μ1, e1, e⟩ := bI_inv e
    obtain ⟨y, μ2, e2, e⟩ := bI_inv e
    cases e
    rw [X12_bestOf_L38]
    rw [if_neg (nI_ge (by omega) (by omega)), e1, bI_s, nI_1, bg_h hH k (i + 1) fu _ _ (by omega) (by omega) e2, Int32.add_assoc]
theorem bg_l (hB : 0 ≤ B ∧ B ≤ 900000000) {p H : Nat} (ok : OkR B f) (h9 : (f 6).toInt ≤ 9999) (hp : (p : Int) < (f 0).toInt) (hH : H ≤ 48) : ∀ (k i fu : Nat) (μ ν : sM) (v3 : Int32), i + k = 100 → k < fu → Riv μ 0 f → (∀ j, j < 76 → rI ν 61 0 j = f j) → (∀ j, j < 76 → rI ν 62 0 j = f j) → rI μ 1 0 2 = rI ν 13 0 29 → ((i = 0 ∧ rI ν 13 0 29 = -1) ∨ rI μ 1 0 1 = v3) →
    ∃ μ' ν', X0_findGate_L8 fu 0 (nI p) (nI H) (nI i) μ = some μ' ∧ X12_bestOf_L14 fu (nI p) (nI H) v3 (nI i) ν = some (rI μ' 1 0 1, ν') ∧ rI μ' 1 0 2 = rI ν' 13 0 29 ∧ keep nA μ μ' ∧ kM ν ν' ∧ (∀ j, j < 76 → rI ν' 61 0 j = f j) ∧ rI ν' 13 0 0 = rI ν 13 0 0
  | 0, i, fu + 1, μ, ν, v3, h, _, hR, a, a', e2, e1 => by
    have g : (99 : Int32) < nI i := nI_lt (a := 99) (by omega) (by omega)
    refine ⟨μ, ν, ?_, ?_, e2, keep_r, kM_r, a, rfl⟩
    · unfold X0_findGate_L8
      rw [if_pos g]
    · unfold X12_bestOf_L14
      rw [if_pos g, e1.resolve_left (by omega)]
  | k + 1, i, fu + 1, μ, ν, v3, h, hf, hR, a, a', e2, e1 => by
    have g : ¬ (99 : Int32) < nI i := nI_nlt (b := i) (a := 99) (by omega) (by omega)
    have c1 := ok.1.1
    unfold rg at c1
    have p6 : p < 6 := by omega
    have tx := nI_toInt (n := i) (by omega)
    obtain ⟨μ2, q1, R2, k2⟩ := copy4 hR ok
    obtain ⟨x1, x2⟩ := clk_p 1 p (by omega) p6 (k := 30) rfl
    have R3 := Riv_u (j := 16 + 6 * 1 + p) (v := nI i) R2 ⟨_, ok⟩ (by omega)
    rw [x1, x2] at R3
    have ok3 := OkR_u (j := 22 + p) (v := nI i) ok (Or.inr (Or.inr (Or.inr (Or.inr (Or.inr (Or.inr (Or.inr (Or.inl ⟨by omega, by omega, by unfold rg; omega⟩))))))))
    have ew : ∀ j, j < 76 → rI (wI ν 61 0 (22 + p) (nI i)) 61 0 j = upd f (22 + p) (nI i) j := by
      intro j hj
      by_cases z : j = 22 + p
      · rw [z, rI_s, upd_s]
      · rw [rI_j z, upd_n z]
        exact a j hj
    obtain ⟨y, μ4, ν', f', e3, e4, R4, ok4, a4, s6, fr, gb, k4, hi, kq4⟩ := tryN hB R3 ok3 (fun j hj => ew j (by omega)) (n := H) (by omega) (by rw [upd_n (by omega)]; omega)
    have z := bg_h (p := p) (H := H) (k14 := X12_bestOf_L14 fu) (v3 := v3) (v4 := nI i) (by omega) H 0 fuN 0 (wI ν 61 0 (22 + p) (nI i)) (by omega) (fuN_6 (by omega)) e4
    have row : ∀ j, j < 76 → rI (gt ν') 61 0 j = f j := by
      intro j hj
      rw [sC_s, if_pos hj, fr.1 62 0 j (Or.inl (by decide)) (by decide) (by decide), rI_k (by decide)]
      exact a' j hj
    have e29 : rI (gt ν') 13 0 29 = rI ν 13 0 29 := by
      rw [sC_k (by decide), fr.1 13 0 29 (Or.inl (by decide)) (by decide) (by decide), rI_k (by decide)]
    have e00 : rI (gt ν') 13 0 0 = rI ν 13 0 0 := by
      rw [sC_k (by decide), fr.1 13 0 0 (Or.inl (by decide)) (by decide) (by decide), rI_k (by decide)]
    have row2 : ∀ j, j < 76 → rI (gt ν') 62 0 j = f j := by
      intro j hj
      rw [sC_k (by decide), fr.1 62 0 j (Or.inl (by decide)) (by decide) (by decide), rI_k (by decide)]
      exact a' j hj
    rw [nI_0, Int32.zero_add, e29] at z
    have K4 : keep nA μ μ4 := keep_t k2 (keep_t (keep_wI (nA_s (n := 0) rfl) keep_r) (keep_m kq4 (nA_Q (by omega))))
    have K5 : ∀ j, rI μ4 1 0 j = rI μ 1 0 j := by
      intro j
      have w1 := (X4_copyFrom_fr 4 0 μ μ2 (by
        unfold X0_copyOf at q1
        obtain ⟨ρ, w, w2⟩ := bV_inv q1
        cases w2
        exact w) 1 0 rfl j).1
      have w2 := (kq4 1 0 rfl j).1
      rw [w2, rI_k (by decide), w1]
    have KM : kM ν (gt ν') := kM_gt (kM_t (kM_wI (Or.inr ⟨rfl, rfl, by omega⟩) kM_r) (kM_m fr))
    by_cases c : y ≤ rI ν 13 0 29
    · have nz : rI μ4 1 0 1 = v3 := by
        rw [K5]
        rcases e1 with w | w
        · exfalso
          rw [w.2, le_i, m1_q] at c
          omega
        · exact w
      obtain ⟨μ', ν'', b1, b2, b3, b4, b5, b6, b7⟩ := bg_l hB ok h9 hp hH k (i + 1) fu μ4 (gt ν') v3 (by omega) (by omega) (Riv_A hR ok K4) row row2 (by rw [K5, e29]; exact e2) (Or.inr nz)
      refine ⟨μ', ν'', ?_, ?_, b3, keep_t K4 b4, kM_t KM b5, b6, b7.trans e00⟩
      · unfold X0_findGate_L8 X0_findGate_J63
        rw [if_neg g, q1, bA_s, if_pos (inb_nI p6 (by omega)), ix_nI (by omega), e3, bI_s, K5, e2, if_pos c, nI_1, b1]
      · rw [X12_bestOf_L14]
        rw [if_neg g, l22, if_pos (inb_nI (by omega) (by omega)), ix_nI (by omega), z, if_neg (Int32.not_lt.mpr c), nI_1, b2]
    · have K6 : keep nA μ (wI (wI μ4 1 0 2 y) 1 0 1 (nI i)) := keep_wI rfl (keep_wI rfl K4)
      obtain ⟨μ', ν'', b1, b2, b3, b4, b5, b6, b7⟩ := bg_l hB ok h9 hp hH k (i + 1) fu (wI (wI μ4 1 0 2 y) 1 0 1 (nI i)) (wI (gt ν') 13 0 29 y) (nI i) (by omega) (by omega) (Riv_A hR ok K6) (fun j hj => by rw [rI_k (by decide)]; exact row j hj) (fun j hj => by rw [rI_k (by decide)]; exact row2 j hj) (by rw [rI_j (by decide), rI_s, rI_s]) (Or.inr rI_s)
      refine ⟨μ', ν'', ?_, ?_, b3, keep_t K6 b4, kM_t (kM_wI (Or.inl rfl) KM) b5, b6, ?_⟩
      · unfold X0_findGate_L8 X0_findGate_J63
        rw [if_neg g, q1, bA_s, if_pos (inb_nI p6 (by omega)), ix_nI (by omega), e3, bI_s, K5, e2, if_neg c, nI_1, b1]
      · rw [X12_bestOf_L14]
        rw [if_neg g, l22, if_pos (inb_nI (by omega) (by omega)), ix_nI (by omega), z, if_pos (Int32.not_le.mp c), nI_1, b2]
      · rw [b7, rI_j (by decide)]
        exact e00
theorem whyG_e (h : Rel B μ ν) (a b : Int32) {ν1 : sM} (e : rI ν1 61 0 0 = rI ν 61 0 0) : (∃ x : Int32, (x = 2 ∨ x = 5) ∧ X11_whyNoGate a b μ = some (x, μ) ∧ X12_whyNoGate a b ν1 = some (x, ν1)) ∨ (X11_whyNoGate a b μ = some (0, μ) ∧ X12_whyNoGate a b ν1 = some (0, ν1) ∧ ∃ p H : Nat, a = nI p ∧ b = nI H ∧ p < 6 ∧ (p : Int) < (rI ν 61 0 0).toInt ∧ H ≤ 48) := by
  obtain ⟨-, hR, ok, h9, hx⟩ := Rel_i h
  have u := ok.1.1
  unfold rg at u
  unfold X11_whyNoGate X12_whyNoGate
  rw [hasR_e, bI_s, isR_e _ _ (by rw [e]; omega), bI_s, hR.1.1, e]
  by_cases c1 : 0 ≤ a.toInt ∧ a.toInt < (rI ν 61 0 0).toInt
  · rw [if_pos c1, if_neg n10, if_neg n10, isIn_i, bI_s]
    simp only [lt_i, le_i, t0, show (0 : Int64).toInt = 0 from rfl, show (48 : Int64).toInt = 48 from rfl, show (48 : Int32).toInt = 48 from rfl]
    by_cases c2 : 0 ≤ b.toInt ∧ b.toInt ≤ 48
    · right
      obtain ⟨p, rfl, hp, hp'⟩ := seg_nI c1.1 (n := 6) (by omega) (by omega)
      obtain ⟨H, rfl, hH, hH'⟩ := seg_nI c2.1 (n := 49) (by omega) (by omega)
      refine ⟨?_, ?_, p, H, rfl, rfl, hp, by omega, by omega⟩
      · rw [if_neg (by omega), if_pos c2.2]
      · rw [if_pos c2, if_neg n10]
    · left
      refine ⟨5, Or.inr rfl, ?_, ?_⟩
      · by_cases d : b.toInt < 0
        · rw [if_pos d]
        · rw [if_neg d, if_neg (by omega)]
      · rw [if_neg c2, if_pos rfl]
  · left
    refine ⟨2, Or.inl rfl, ?_, ?_⟩
    · rw [if_neg c1, if_pos rfl]
    · rw [if_neg c1, if_pos rfl]
theorem best2 (hB : 0 ≤ B ∧ B ≤ 900000000) (h : Rel B μ ν) {p H : Nat} (hp : (p : Int) < (rI ν 61 0 0).toInt) (hH : H ≤ 48) : ∃ μ' ν', X0_findGate 0 (nI p) (nI H) μ = some μ' ∧ X12_bestOf (nI p) (nI H) (m0 ν) = some (rI μ' 1 0 1, ν') ∧ rI μ' 1 0 2 = rI ν' 13 0 29 ∧ Rel (B + 2000) (wI μ' 12 0 0 0) ν' := by
  obtain ⟨-, hR, ok, h9, hx⟩ := Rel_i h
  obtain ⟨μ', ν', b1, b2, b3, b4, b5, b6, b7⟩ := bg_l hB ok h9 hp hH 100 0 fuN (wI μ 1 0 2 (-1)) (pt (wI (m0 ν) 13 0 29 (-1))) 0 (by omega) (fuN_6 (by omega)) (Riv_A hR ok (keep_wI rfl keep_r)) (fun j hj => by rw [sC_k (by decide), rI_k (by decide), m0_k (by decide)]) (fun j hj => by rw [sC_s, if_pos hj, rI_k (by decide), m0_k (by decide)]) (by rw [rI_s, sC_k (by decide), rI_s]) (Or.inl ⟨rfl, by rw [sC_k (by decide), rI_s]⟩)
  refine ⟨μ', ν', b1, ?_, b3, Rel_k h (kq_k (keep_t (keep_wI rfl keep_r) b4) qB_A) (kM_t (kM_pt (kM_wI (Or.inl rfl) (kM_q m0_q))) b5) b6 ?_⟩
  · unfold X12_bestOf
    rw [puts_e, bV_s]
    exact b2
  · rw [b7, sC_k (by decide), rI_j (by decide), rI_s]
theorem m_bestGate (hB : 0 ≤ B ∧ B ≤ 900000000) (a b : Int32) : BoI B (X11_bestGate a b) (X12_bestGate a b) := fun μ ν h => by
  unfold X11_bestGate X12_bestGate
  rcases whyG_e h a b (ν1 := wI ν 13 0 1 0) (rI_k (by decide)) with ⟨x, hx, e1, e2⟩ | ⟨e1, e2, p, H, rfl, rfl, hp, hl, hH⟩
  · refine ⟨-1, _, _, ?_, ?_, re_1 h x⟩
    · rw [e1, bI_s, if_neg (by rcases hx with rfl | rfl <;> decide +kernel)]; rfl
    · rw [e2, bI_s, if_neg (by rcases hx with rfl | rfl <;> decide +kernel)]
  · obtain ⟨μ', ν', b1, b2, b3, b4⟩ := best2 hB h hl hH
    refine ⟨rI μ' 1 0 1, _, _, ?_, ?_, b4⟩
    · rw [e1, bI_s, if_pos rfl, b1, bV_s]; rfl
    · rw [e2, bI_s, if_pos (by decide +kernel), b2, bI_s]
theorem m_bestGround (hB : 0 ≤ B ∧ B ≤ 900000000) (a b : Int32) : BoI B (X11_bestGround a b) (X12_bestGround a b) := fun μ ν h => by
  unfold X11_bestGround X12_bestGround
  rcases whyG_e h a b (ν1 := wI ν 13 0 1 0) (rI_k (by decide)) with ⟨x, hx, e1, e2⟩ | ⟨e1, e2, p, H, rfl, rfl, hp, hl, hH⟩
  · refine ⟨-1, _, _, ?_, ?_, re_1 h x⟩
    · rw [e1, bI_s, if_neg (by rcases hx with rfl | rfl <;> decide +kernel)]; rfl
    · rw [e2, bI_s, if_neg (by rcases hx with rfl | rfl <;> decide +kernel)]
  · obtain ⟨μ', ν', b1, b2, b3, b4⟩ := best2 hB h hl hH
    refine ⟨rI ν' 13 0 29, _, _, ?_, ?_, b4⟩
    · rw [e1, bI_s, if_pos rfl, b1, bV_s, b3]; rfl
    · rw [e2, bI_s, if_pos (by decide +kernel), b2, bI_s]
end C96
