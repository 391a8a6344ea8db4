/-! 98i: live, mean -/
section C98i
variable {B : Int} {μ ν : sM} {r l : Nat}
abbrev x0r (μ : sM) (l r : Nat) (a : Int32) : sM := wR (wR (wI (wI (wI (wI (wI (wI (wI (wI μ 2 l 0 1) 2 l 1 0) 2 l 2 0) 2 l 3 0) 2 l 4 0) 2 l 5 0) 2 l 6 0) 2 l 7 a) 2 l 8 (r + 1)) 2 l 9 (0 + 1)
abbrev m0r (ν : sM) (a : Int32) : sM := wI (wI (wI (wI (wI (wI (wI (wI ν 13 0 42 a) 13 0 43 0) 13 0 44 0) 13 0 45 0) 13 0 46 0) 13 0 47 0) 13 0 48 0) 13 0 41 0
theorem Rv_x0 {a : Int32} (h : Rv B μ r ν) : Rv B (x0r μ l r a) r (m0r ν a) := by
  have h1 : Rv B (wI (wI (wI (wI (wI (wI (wI (wI μ 2 l 0 1) 2 l 1 0) 2 l 2 0) 2 l 3 0) 2 l 4 0) 2 l 5 0) 2 l 6 0) 2 l 7 a) r ν := Rv_2 (Rv_2 (Rv_2 (Rv_2 (Rv_2 (Rv_2 (Rv_2 (Rv_2 h)))))))
  have h2 : Rv B (x0r μ l r a) r ν := h1
  exact Rv_13 (Rv_13 (Rv_13 (Rv_13 (Rv_13 (Rv_13 (Rv_13 (Rv_13 h2)))))))
theorem k_x0 {a : Int32} : keep (nL r l) μ (x0r μ l r a) := keep_wR nL_2 (keep_wR nL_2 (keep_wI nL_2 (keep_wI nL_2 (keep_wI nL_2 (keep_wI nL_2 (keep_wI nL_2 (keep_wI nL_2 (keep_wI nL_2 (keep_wI nL_2 keep_r)))))))))
theorem f_m0 {a : Int32} : mf3 ν (m0r ν a) := mf3_13 (mf3_13 (mf3_13 (mf3_13 (mf3_13 (mf3_13 (mf3_13 (mf3_13 mf3_r (by omega)) (by omega)) (by omega)) (by omega)) (by omega)) (by omega)) (by omega)) (by omega)
theorem St_0 {z : Nat} (h : Rv B μ r ν) (h6 : (rI ν 61 0 6).toInt ≤ 9999) (hz : z ≤ 65535) : St B (x0r μ l r (nI z)) r l (m0r ν (nI z)) 0 := by
  have tz := nI_toInt (n := z) (by omega)
  refine ⟨⟨⟨?_, ?_⟩, Rv_x0 h, ?_, ⟨?_, ?_, ?_, ?_⟩, ?_⟩, ⟨⟨?_, ?_, by omega⟩, ?_⟩, ?_, ?_, ?_⟩
  · simp [rR_wR]
  · simp [rR_wR]
  · simp only [rI_wI]
    simp
    exact h6
  · simp [rI_wI, rI_wR]
  · simp [rI_wI, rI_wR]
  · simp [rI_wI, rI_wR]
  · simp [rI_wI, rI_wR]
  · simp only [rI_wI]
    simp
    unfold rg
    omega
  · simp [rI_wI, rI_wR, nI_0]
  · simp [rI_wI, nI_0]
  · simp [rI_wI, rI_wR]
  · simp [rI_wI, rI_wR]
  · simp [rI_wI]
  · simp [rI_wI]
theorem runLife (hB : 0 ≤ B ∧ B ≤ 1000000000) (h : Rv B μ r ν) (h6 : (rI ν 61 0 6).toInt ≤ 9999) (hW : RelW μ 0 ν 0) (h1 : ¬ rI μ 9 0 0 = 0) {z : Nat} (hz : z ≤ 65535) : ∃ μ' ν' d, X1_run l r 0 (nI z) μ = some μ' ∧ X12_runsWeeks (nI z) ν = some ν' ∧ LfS B μ' r l ν' ∧ Cn μ' l ν' d ∧ rI μ' 2 l 6 = rI ν' 13 0 48 ∧ rI μ' 2 l 0 = 1 ∧ keep (nL r l) μ μ' ∧ mf3 ν ν' := by
  obtain ⟨w1, w2, w3, w4⟩ := hW
  rcases w3 with w3 | ⟨-, S, Q, s1, s2, q1, q2, hS⟩
  · exact absurd w3 h1
  · have hS' := Seg_c (kq_nL (k_x0 (μ := μ) (r := r) (l := l) (a := nI z))) (kq_mf3 (f_m0 (ν := ν) (a := nI z))) 30 3 0 S 0 Q s2 hS
    have hQ : rI (x0r μ l r (nI z)) 9 0 2 = nI Q := ((k_x0 (r := r) (l := l)) 9 0 nL_9 2).1.trans q1
    obtain ⟨μ', ν', d', T, e1, -, g1, f1, h2⟩ := sim hB q2 30 5 3 0 S 0 Q fuN (x0r μ l r (nI z)) (m0r ν (nI z)) 0 (by omega) (fuN_6 (by omega)) (by omega) s2 (Nat.le_refl Q) hQ hS' (St_0 h h6 hz)
    have x0 : rI μ' 2 l 0 = 1 := by
      rw [g1.2.1]
      simp [rI_wI, rI_wR]
    have eM : X12_runsWeeks (nI z) ν = some ν' := by
      unfold X12_runsWeeks
      have z77 : rI ν 61 0 77 = nI S := w2.symm.trans s1
      rw [z77]
      show bV (X12_doAll_L2 (X12_doOne_ (X12_doAllN 5)) fuN (nI S) (nI 0) (m0r ν (nI z))) _ = _
      rw [e1, bV_s]
    have eX : X1_run l r 0 (nI z) μ = Rn l 0 0 (x0r μ l r (nI z)) := rfl
    rcases h2 with ⟨st, t1, t2⟩ | ⟨fi, t1, t2⟩
    · have dd := st.2.1.1.2.2
      refine ⟨μ', ν', d', ?_, eM, st.1, st.2.1, ?_, x0, keep_t k_x0 g1.1, mf3_t f_m0 f1⟩
      · rw [eX, t2 0 (by omega)]
        exact Rn_Q (by omega) st.1.1.2 ((g1.1 9 0 nL_9 2).1.trans hQ) q2
      · rw [st.2.2.1, st.2.2.2.2]
    · have dd := fi.2.1.1.2.2
      refine ⟨μ', ν', d', ?_, eM, fi.1, fi.2.1, fi.2.2.1, x0, keep_t k_x0 g1.1, mf3_t f_m0 f1⟩
      rw [eX, t2 0 (by omega)]
/-! what a life leaves alone -/
def qL (k i j : Nat) : Bool := qF k i j || (qT k i j || (qP k i j || (qN 0 0 k i j || (qW 0 0 k i j || qK k i j))))
theorem qL_x : ∀ k i j, qL k i j = true → nL 0 0 k i = true := by
  intro k i j h
  unfold nL
  by_cases z : (rk2 k = true ∧ i = 0) ∨ ((k = 2 ∨ k = 23) ∧ i = 0)
  · exfalso
    unfold qL qF qT qP qN qW qK at h
    unfold rk2 at z
    simp only [Bool.or_eq_true, Bool.and_eq_true, beq_iff_eq, Nat.ble_eq, rk] at h z
    omega
  · cases e : ((rk2 k && i == 0) || ((k == 2 || k == 23) && i == 0)) with
    | false => rfl
    | true =>
      exfalso
      apply z
      simpa only [Bool.or_eq_true, Bool.and_eq_true, beq_iff_eq] using e
theorem kq_L3 {ν1 : sM} (h : mf3 ν ν1) : kq qL ν ν1 := by
  intro k i j hq
  refine ⟨?_, h.2.1 k i j⟩
  by_cases z : k = 61 ∧ i = 0 ∧ j < 3
  · rw [z.1, z.2.1]
    exact h.2.2 j (by omega)
  · unfold qL qF qT qP qN qW qK at hq
    simp only [Bool.or_eq_true, Bool.and_eq_true, beq_iff_eq, Nat.ble_eq, rk] at hq
    exact h.1 k i j (by omega) (by omega) (by omega) (by omega)
theorem RelX_L {μ' ν' : sM} {B' : Int} (h : RelX B μ ν) (ok : OkR B (rI ν 61 0)) (a : kq qL μ μ') (c : kq qL ν ν') (hV : RelV μ' ν') (hb : B ≤ B') : RelX B' μ' ν' := by
  obtain ⟨h1, h2, h3, h4, h5, h6, h7⟩ := h
  have u0 := ok.1.1
  have u1 := ok.1.2.1
  have u2 := ok.1.2.2
  unfold rg at u0 u1 u2
  have m1 : ∀ k i j, qF k i j = true → qL k i j = true := fun k i j h => by unfold qL; simp [h]
  have m2 : ∀ k i j, qT k i j = true → qL k i j = true := fun k i j h => by unfold qL; simp [h]
  have m3 : ∀ k i j, qP k i j = true → qL k i j = true := fun k i j h => by unfold qL; simp [h]
  have m4 : ∀ k i j, qN 0 0 k i j = true → qL k i j = true := fun k i j h => by unfold qL; simp [h]
  have m5 : ∀ k i j, qW 0 0 k i j = true → qL k i j = true := fun k i j h => by unfold qL; simp [h]
  have m6 : ∀ k i j, qK k i j = true → qL k i j = true := fun k i j h => by unfold qL; simp [h]
  exact ⟨RelF_c h1 (kq_m a m1) (kq_m c m1), RelT_c h2 (kq_m a m2) (kq_m c m2), RelP_c h3 (kq_m a m3) (kq_m c m3), RelN_c h4 (kq_m a m4) (kq_m c m4) u0.2 u1.2 u2.2, RelW_c h5 (kq_m a m5) (kq_m c m5), RelK_c h6 (kq_m a m6) (kq_m c m6) hb, hV⟩
theorem m_live (hB : 0 ≤ B ∧ B ≤ 900000000) (a : Int32) : BoI B (X11_live a) (X12_live a) := fun μ ν h => by
  obtain ⟨-, hR, ok, h9, hx⟩ := Rel_i h
  have hW := hx.2.2.2.2.1
  unfold X11_live X12_live
  rw [isIn_i, bI_s, show (0 : Int64).toInt = 0 from rfl, show (9999 : Int64).toInt = 9999 from rfl]
  simp only [lt_i, le_i, t0, show (9999 : Int32).toInt = 9999 from rfl]
  by_cases c1 : 0 ≤ a.toInt ∧ a.toInt ≤ 9999
  · rw [if_neg (show ¬ a.toInt < 0 by omega), if_pos c1.2, if_pos c1, if_neg n10]
    have w1 : rI μ 9 0 0 = rI ν 61 0 76 := hW.1
    rw [w1, m0_k (by decide)]
    by_cases c2 : rI ν 61 0 76 = 0
    · refine ⟨-1, _, _, ?_, ?_, re_b h 8⟩
      · rw [if_pos c2]; rfl
      · rw [if_pos c2]; rfl
    · obtain ⟨z, rfl, z9, -⟩ := rg_nI (x := a) (b := 9999) c1
      have hv : Rv B μ 0 (m0 ν) := ⟨by rw [m0_c]; exact hR, by rw [m0_c]; exact ok⟩
      obtain ⟨μ', ν', d, e1, e2, L, ⟨⟨d1, d2, d3⟩, d4⟩, d6, d0, k1, f1⟩ := runLife (l := 0) (z := z) (by omega) hv (by rw [m0_k (by decide)]; exact h9) (RelW_c hW kq_r (kq_wI rfl (kq_wI rfl kq_r))) (by rw [w1]; exact c2) (by omega)
      rw [if_neg c2, if_neg c2, e1, e2, bV_s, bV_s, d1, d2]
      refine ⟨nI d, wI μ' 12 0 0 0, _, rfl, rfl, Rel_m ?_ ?_ ?_ ?_ (RelX_L hx ok (kq_wI rfl (kq_k k1 qL_x)) (kq_wI rfl (kq_wI rfl (kq_wI rfl (kq_wI rfl (kq_wI rfl (kq_wI rfl (kq_t (ν := m0 ν) (kq_wI rfl (kq_wI rfl kq_r)) (kq_L3 f1)))))))) ?_ (by omega))⟩
      · rw [rI_s]
        simp only [rI_wI]
        simp
        rw [f1.1 13 0 0 (by omega) (by omega) (by omega) (by omega)]
        exact rI_s.symm
      · have e61 : rI (wI (wI (wI (wI (wI (wI ν' 71 0 0 (rI ν' 13 0 44)) 71 0 1 (rI ν' 13 0 45)) 71 0 2 (rI ν' 13 0 46)) 71 0 3 (rI ν' 13 0 47)) 71 0 4 (rI ν' 13 0 48)) 13 0 40 1) 61 0 = rI ν' 61 0 := funext fun j => by simp [rI_wI]
        rw [e61]
        refine Riv_x L.2.1.1 L.2.1.2 (fun k j hk => ⟨?_, rfl⟩)
        rw [rI_k (fun q => by rw [q] at hk; cases hk)]
      · have e61 : rI (wI (wI (wI (wI (wI (wI ν' 71 0 0 (rI ν' 13 0 44)) 71 0 1 (rI ν' 13 0 45)) 71 0 2 (rI ν' 13 0 46)) 71 0 3 (rI ν' 13 0 47)) 71 0 4 (rI ν' 13 0 48)) 13 0 40 1) 61 0 = rI ν' 61 0 := funext fun j => by simp [rI_wI]
        rw [e61]
        exact OkR_mono L.2.1.2 (by omega)
      · simp only [rI_wI]
        simp
        exact L.2.2.1
      · refine ⟨?_, ?_, fun _ => ⟨?_, ?_, ?_, ?_, ?_⟩⟩
        · rw [rI_k (by decide), d0, rI_s]
        · exact Or.inr rI_s
        · rw [rI_k (by decide), d4]; simp [rI_wI]
        · rw [rI_k (by decide), L.2.2.2.1.1]; simp [rI_wI]
        · rw [rI_k (by decide), L.2.2.2.1.2.1]; simp [rI_wI]
        · rw [rI_k (by decide), L.2.2.2.1.2.2.1]; simp [rI_wI]
        · rw [rI_k (by decide), d6]; simp [rI_wI]
  · refine ⟨-1, _, _, ?_, ?_, re_b h 5⟩
    · by_cases c3 : a.toInt < 0
      · rw [if_pos c3]; rfl
      · rw [if_neg c3, if_neg (by omega)]; rfl
    · rw [if_neg c1]; rfl
/-! mean -/
theorem mean62 {v1 v2 : Int32} : ∀ (k i fu : Nat) (ν : sM), i + k = 76 → k < fu → X12_mean_L62 fu v1 v2 (nI i) ν = X12_mean_L91 fuN v1 v2 0 0 (sC ν 63 0 (fun j => if i ≤ j ∧ j < 76 then rI ν 61 0 j else rI ν 63 0 j))
  | 0, i, fu + 1, ν, h, _ => by
    unfold X12_mean_L62
    rw [if_pos (show (76 : Int32) ≤ nI i from nI_le (a := 76) (by omega) (by omega)), sC_id]
    intro j
    rw [if_neg (by omega)]
  | k + 1, i, fu + 1, ν, h, hf => by
    rw [X12_mean_L62]
    rw [if_neg (show ¬ (76 : Int32) ≤ nI i from nI_ge (b := 76) (by omega) (by omega)), if_pos (inb_nI (by omega) (by omega)), if_pos (inb_nI (by omega) (by omega)), ix_nI (by omega), nI_1, mean62 k (i + 1) fu _ (by omega) (by omega), sC_wI]
    congr 1
    apply sC_c
    intro j
    rw [rI_k (by decide)]
    by_cases e : j = i
    · subst e
      rw [if_neg (by omega), if_pos ⟨Nat.le_refl j, by omega⟩, rI_s]
    · rw [rI_j e]
      by_cases q : i + 1 ≤ j ∧ j < 76
      · rw [if_pos q, if_pos ⟨by omega, q.2⟩]
      · rw [if_neg q, if_neg (by omega)]
theorem mean116 {k91 : Int32 → Int32 → Int64 → Int32 → sM → Option (Int32 × sM)} {v1 v2 v5 : Int32} {v3 : Int64} : ∀ (k i fu : Nat) (ν : sM), i + k = 76 → k < fu → X12_mean_L116 k91 fu v1 v2 v3 v5 (nI i) ν = k91 v1 v2 v3 (v5 + 1) (sC ν 61 0 (fun j => if i ≤ j ∧ j < 76 then rI ν 63 0 j else rI ν 61 0 j))
  | 0, i, fu + 1, ν, h, _ => by
    unfold X12_mean_L116
    rw [if_pos (show (76 : Int32) ≤ nI i from nI_le (a := 76) (by omega) (by omega)), sC_id]
    intro j
    rw [if_neg (by omega)]
  | k + 1, i, fu + 1, ν, h, hf => by
    rw [X12_mean_L116]
    rw [if_neg (show ¬ (76 : Int32) ≤ nI i from nI_ge (b := 76) (by omega) (by omega)), if_pos (inb_nI (by omega) (by omega)), if_pos (inb_nI (by omega) (by omega)), ix_nI (by omega), nI_1, mean116 k (i + 1) fu _ (by omega) (by omega), sC_wI]
    congr 1
    apply sC_c
    intro j
    rw [rI_k (by decide)]
    by_cases e : j = i
    · subst e
      rw [if_neg (by omega), if_pos ⟨Nat.le_refl j, by omega⟩, rI_s]
    · rw [rI_j e]
      by_cases q : i + 1 ≤ j ∧ j < 76
      · rw [if_pos q, if_pos ⟨by omega, q.2⟩]
      · rw [if_neg q, if_neg (by omega)]
theorem kM_3 {ν1 : sM} (h : mf3 ν ν1) : kM ν ν1 := ⟨fun k i j _ => h.2.1 k i j, fun k i j hq hk => by
  refine h.1 k i j hk (qB_n hq).2.1 (qB_n hq).2.2 ?_
  unfold qB qA qF qT qP qN qW qK qV qR at hq
  simp only [Bool.or_eq_true, Bool.and_eq_true, beq_iff_eq, Nat.ble_eq, rk] at hq
  omega⟩
theorem qB_41 : ∀ k i j, qB k i j = true → nL 4 1 k i = true := by
  intro k i j h
  unfold nL
  by_cases z : (rk2 k = true ∧ i = 4) ∨ ((k = 2 ∨ k = 23) ∧ i = 1)
  · exfalso
    unfold qB qA qF qT qP qN qW qK qV qR at h
    unfold rk2 at z
    simp only [Bool.or_eq_true, Bool.and_eq_true, beq_iff_eq, Nat.ble_eq, rk] at h z
    omega
  · cases e : ((rk2 k && i == 4) || ((k == 2 || k == 23) && i == 1)) with
    | false => rfl
    | true =>
      exfalso
      apply z
      simpa only [Bool.or_eq_true, Bool.and_eq_true, beq_iff_eq] using e
theorem qB_R0 : ∀ k i j, qR 0 0 k i j = true → qB k i j = true := fun k i j h => by unfold qB; simp [h]
theorem qB_W0 : ∀ k i j, qW 0 0 k i j = true → qB k i j = true := fun k i j h => by unfold qB qA; simp [h]
theorem mean91 (hB : 0 ≤ B ∧ B ≤ 900000000) {μ0 ν0 : sM} {f : Nat → Int32} {z m : Nat} (hR : Riv μ0 0 f) (ok : OkR B f) (h9 : (f 6).toInt ≤ 9999) (hW : RelW μ0 0 ν0 0) (w1 : ¬ rI μ0 9 0 0 = 0) (hc : ∀ j, j < 76 → rI ν0 61 0 j = f j) (hz : z + m ≤ 10000) (hm : m ≤ 20) : ∀ (k i fu : Nat) (v : Int64) (μ ν : sM), i + k = m → k < fu → kq qB μ0 μ → kq qB ν0 ν → (∀ j, j < 76 → rI ν 63 0 j = f j) → (0 ≤ v.toInt ∧ v.toInt ≤ 70000 * (i : Int)) →
    ∃ v' μ' ν', X11_mean_L61 fu (nI z) (nI m) v (nI i) μ = bV (X11_tellFraction v' (Int32.toInt64 (nI m)) μ') (fun μ2 => bI (X11_grant μ2) fun x3 μ4 => if x3 = 0 ∨ x3 = 1 then some (x3, μ4) else none) ∧ X12_mean_L91 fu (nI z) (nI m) v (nI i) ν = bI (X12_fraction v' (Int32.toInt64 (nI m)) ν') (fun x1 μ2 => if x1 = 0 ∨ x1 = 1 then some (x1, μ2) else none) ∧ kq qB μ0 μ' ∧ kq qB ν0 ν' ∧ rI ν' 13 0 0 = rI ν 13 0 0 ∧ 0 ≤ v'.toInt
  | 0, i, fu + 1, v, μ, ν, h, _, a, c, h63, hv => by
    refine ⟨v, μ, ν, ?_, ?_, a, c, rfl, hv.1⟩
    · unfold X11_mean_L61
      rw [if_pos (nI_le (by omega) (by omega))]
    · unfold X12_mean_L91
      rw [if_pos (nI_le (by omega) (by omega))]
  | k + 1, i, fu + 1, v, μ, ν, h, hf, a, c, h63, hv => by
    have ec : ∀ j, j < 76 → rI ν 61 0 j = f j := fun j hj => by
      have q := qR_m (r := 0) (b := 0) hj
      rw [Nat.mul_zero, Nat.zero_add] at q
      exact (c 61 0 j (qB_R0 _ _ _ q)).1.trans (hc j hj)
    have hR1 : Riv μ 0 f := Riv_x hR ok (fun k j hk => a k 0 j (qB_R0 _ _ _ (qR_x hk)))
    obtain ⟨μ1, e1, R1, k1⟩ := copy4 hR1 ok
    have a1 : kq qB μ0 μ1 := kq_t a (kq_k k1 qB_A)
    have hv1 : Rv B μ1 4 ν := ⟨Riv_c R1 (fun _ _ _ => ⟨rfl, rfl⟩) ec ok.1.1.2 ok.1.2.1.2 ok.1.2.2.2, OkR_c ok ec⟩
    obtain ⟨μ', ν', d, e2, e3, L, -, -, -, k2, f2⟩ := runLife (l := 1) (z := z + i) (by omega) hv1 (by rw [ec 6 (by omega)]; exact h9) (RelW_c hW (kq_m a1 qB_W0) (kq_m c qB_W0)) (by rw [(a1 9 0 0 rfl).1]; exact w1) (by omega)
    obtain ⟨G, g1, g2, g3, g4, -⟩ := allGround2 L.2.1.1 L.2.1.2
    have e63 : ∀ j, rI ν' 63 0 j = rI ν 63 0 j := fun j => f2.1 63 0 j (by omega) (by omega) (by omega) (by omega)
    have sv : (v + G.toInt64).toInt = v.toInt + G.toInt := by
      rw [tAL (by rw [tX]; omega) (by rw [tX]; omega), tX]
    have c2 : kq qB ν0 (sC ν' 61 0 (fun j => if 0 ≤ j ∧ j < 76 then rI ν' 63 0 j else rI ν' 61 0 j)) := by
      refine kM_B (kM_sC (fun j hq hb => ?_) (kM_t (kM_q c) (kM_3 f2))) (fun j hj => ?_)
      · rw [if_neg (by omega)]
        exact (kM_t (kM_q c) (kM_3 f2)).2 61 0 j hq hb
      · rw [sC_s, if_pos ⟨by omega, hj⟩, e63, h63 j hj, hc j hj]
    obtain ⟨v', μ5, ν5, e5, e6, q1, q2, q3, q4⟩ := mean91 hB hR ok h9 hW w1 hc hz hm k (i + 1) fu (v + G.toInt64) μ' (sC ν' 61 0 (fun j => if 0 ≤ j ∧ j < 76 then rI ν' 63 0 j else rI ν' 61 0 j)) (by omega) (by omega) (kq_t a1 (kq_k k2 qB_41)) c2 (fun j hj => by rw [sC_k (by decide), e63]; exact h63 j hj) (by omega)
    refine ⟨v', μ5, ν5, ?_, ?_, q1, q2, ?_, q4⟩
    · rw [X11_mean_L61]
      rw [if_neg (nI_ge (by omega) (by omega)), e1, bA_s, nI_add, e2, bV_s, g1, bI_s, nI_1, e5]
    · have z116 := mean116 (k91 := X12_mean_L91 fu) (v1 := nI z) (v2 := nI m) (v3 := v + G.toInt64) (v5 := nI i) 76 0 fuN ν' (by omega) (fuN_6 (by omega))
      rw [nI_0] at z116
      rw [X12_mean_L91]
      rw [if_neg (nI_ge (by omega) (by omega)), nI_add, e3, bV_s, g2, bI_s, z116, nI_1, e6]
    · rw [q3, sC_k (by decide), f2.1 13 0 0 (by omega) (by omega) (by omega) (by omega)]
theorem m_mean (hB : 0 ≤ B ∧ B ≤ 900000000) (a b : Int32) : BoI B (X11_mean a b) (X12_mean a b) := fun μ ν h => by
  obtain ⟨-, hR, ok, h9, hx⟩ := Rel_i h
  have hW := hx.2.2.2.2.1
  have w1 : rI μ 9 0 0 = rI ν 61 0 76 := hW.1
  unfold X11_mean X12_mean
  rw [isIn_i, bI_s, show (1 : Int64).toInt = 1 from rfl, show (20 : Int64).toInt = 20 from rfl]
  by_cases c1 : 1 ≤ b.toInt ∧ b.toInt ≤ 20
  · have tb : (10000 - b).toInt = 10000 - b.toInt := tS (by rw [show (10000 : Int32).toInt = 10000 from rfl]; omega) (by rw [show (10000 : Int32).toInt = 10000 from rfl]; omega)
    rw [if_pos c1, if_neg n10, isIn_i, bI_s, tX, tb, show (0 : Int64).toInt = 0 from rfl]
    by_cases c2 : 0 ≤ a.toInt ∧ a.toInt ≤ 10000 - b.toInt
    · have ts : ((a + b) - 1).toInt = a.toInt + b.toInt - 1 := by
        have : (a + b).toInt = a.toInt + b.toInt := tA (by omega) (by omega)
        rw [tS (by rw [t1]; omega) (by rw [t1]; omega), this, t1]
      simp only [lt_i, le_i, t0, t1, ts, show (9999 : Int32).toInt = 9999 from rfl, show (20 : Int32).toInt = 20 from rfl]
      rw [if_neg (show ¬ a.toInt < 0 by omega), if_neg (show ¬ 9999 < a.toInt by omega), if_neg (show ¬ b.toInt < 1 by omega), if_neg (show ¬ 20 < b.toInt by omega), if_pos (show a.toInt + b.toInt - 1 ≤ 9999 by omega), if_pos c2, if_neg n10, w1, m0_k (by decide)]
      by_cases c3 : rI ν 61 0 76 = 0
      · refine ⟨0, _, _, ?_, ?_, re_b h 8⟩
        · rw [if_pos c3]; rfl
        · rw [if_pos c3]; rfl
      · obtain ⟨z, rfl, z9, hz'⟩ := rg_nI (x := a) (b := 9999) (by unfold rg; omega)
        obtain ⟨m, rfl, m2, hm'⟩ := rg_nI (x := b) (b := 20) (by unfold rg; omega)
        have z62 := mean62 (v1 := nI z) (v2 := nI m) 76 0 fuN (m0 ν) (by omega) (fuN_6 (by omega))
        rw [nI_0] at z62
        obtain ⟨v', μ', ν', e5, e6, q1, q2, q3, q4⟩ := mean91 (μ0 := μ) (ν0 := sC (m0 ν) 63 0 (fun j => if 0 ≤ j ∧ j < 76 then rI (m0 ν) 61 0 j else rI (m0 ν) 63 0 j)) (f := rI ν 61 0) (z := z) (m := m) hB hR ok h9 (RelW_c hW kq_r (kq_sC (fun j hq => by cases hq) (kq_wI rfl (kq_wI rfl kq_r)))) (by rw [w1]; exact c3) (fun j hj => by rw [sC_k (by decide), m0_k (by decide)]) (by omega) m2 m 0 fuN 0 μ _ (by omega) (fuN_6 (by omega)) kq_r kq_r (fun j hj => by rw [sC_s, if_pos ⟨by omega, hj⟩, m0_k (by decide)]) (by rw [show (0 : Int64).toInt = 0 from rfl]; omega)
        rw [nI_0] at e5 e6
        rw [if_neg c3, if_neg c3, z62, e5, e6]
        obtain ⟨g, y1, y2⟩ := frac2 (a := v') (b := (nI m).toInt64) q4 (by rw [tX]; omega) μ' ν'
        rw [y1, y2, bV_s, bI_s]
        have kν : kq qB ν ν' := kq_t (kq_sC (fun j hq => by cases hq) m0_q) q2
        have s0 : rI ν' 13 0 0 = 0 := by rw [q3, sC_k (by decide), rI_s]
        refine ⟨1, _, _, rfl, rfl, ?_⟩
        have gm : ∀ k i j, qG false true true true k i j = true → qB k i j = true := by
          intro k i j hq
          unfold qG at hq
          unfold qB qA
          simp only [Bool.or_eq_true, Bool.and_eq_true, Bool.false_and, Bool.true_and, Bool.false_or] at hq ⊢
          rcases hq with z | z | z | z | z | z
          · simp [z]
          · simp [z]
          · simp [z]
          · simp [z]
          · simp [z]
          · simp [z]
        refine Rel_g false true true true h (kq_wI rfl (kq_wL rfl (kq_wL rfl (kq_m q1 gm)))) (kq_wL rfl (kq_wL rfl (kq_m kν gm))) ?_ (fun _ => ⟨?_, ?_⟩) (by simp) (by simp) (by simp) (by omega)
        · rw [rI_s, rI_wL, rI_wL, s0]
        · rw [rL_wI, rL_j (by decide), rL_s, rL_j (by decide), rL_s]
        · rw [rL_wI, rL_s, rL_s]
    · refine ⟨0, _, _, ?_, ?_, re_b h 5⟩
      · simp only [lt_i, le_i, t0, t1, show (9999 : Int32).toInt = 9999 from rfl, show (20 : Int32).toInt = 20 from rfl]
        by_cases c3 : a.toInt < 0
        · rw [if_pos c3]; rfl
        · rw [if_neg c3]
          by_cases c4 : 9999 < a.toInt
          · rw [if_pos c4]; rfl
          · have ts : ((a + b) - 1).toInt = a.toInt + b.toInt - 1 := by
              have : (a + b).toInt = a.toInt + b.toInt := tA (by omega) (by omega)
              rw [tS (by rw [t1]; omega) (by rw [t1]; omega), this, t1]
            rw [if_neg c4, if_neg (by omega), if_neg (by omega), ts, if_neg (by omega)]; rfl
      · rw [if_neg c2]; rfl
  · refine ⟨0, _, _, ?_, ?_, re_b h 5⟩
    · simp only [lt_i, le_i, t0, t1, show (9999 : Int32).toInt = 9999 from rfl, show (20 : Int32).toInt = 20 from rfl]
      by_cases c3 : a.toInt < 0
      · rw [if_pos c3]; rfl
      · rw [if_neg c3]
        by_cases c4 : 9999 < a.toInt
        · rw [if_pos c4]; rfl
        · rw [if_neg c4]
          by_cases c5 : b.toInt < 1
          · rw [if_pos c5]; rfl
          · rw [if_neg c5, if_pos (by omega)]; rfl
    · rw [if_neg c1]; rfl
end C98i
