/-! 84: calls that change one number of the row; HOURS -/
theorem n10 : ¬ (1 : Int32) = 0 := by decide +kernel
theorem qA_Q {r : Nat} (hr : r = 0 ∨ 4 ≤ r) : ∀ k i j, qA k i j = true → nQ r k i = true := by
  intro k i j h
  unfold nQ
  by_cases z : rk2 k = true ∧ i = r
  · exfalso
    obtain ⟨z1, z2⟩ := z
    unfold rk2 at z1
    unfold qA qF qT qP qN qW qK qV at h
    simp only [Bool.or_eq_true, Bool.and_eq_true, beq_iff_eq, Nat.ble_eq, rk] at h z1
    omega
  · simp only [Bool.not_eq_true', Bool.and_eq_false_iff]
    by_cases y : rk2 k = true
    · right
      simp only [beq_eq_false_iff_ne]
      exact fun q => z ⟨y, q⟩
    · left
      simpa using y
theorem kqA_m {ν ν' : sM} (h : mfr ν ν') (h3 : ∀ j, j < 3 → rI ν' 61 0 j = rI ν 61 0 j) : kq qA ν ν' := by
  intro k i j hq
  refine ⟨?_, h.2.1 k i j⟩
  by_cases z : k = 61 ∧ i = 0 ∧ j < 3
  · rw [z.1, z.2.1]
    exact h3 j z.2.2
  · unfold qA qF qT qP qN qW qK qV at hq
    simp only [Bool.or_eq_true, Bool.and_eq_true, beq_iff_eq, Nat.ble_eq, rk] at hq
    exact h.1 k i j (by omega) (by omega) (by omega)
section C84
variable {B : Int} {μ ν : sM}
/-- the relation behind one change of the row on both sides -/
theorem Rel_u (h : Rel B μ ν) {j k p : Nat} {v s : Int32} (hv : okv (B + 2000) (rI ν 61 0) j v) (hk : clk j = k) (hp : clp j = p) (hj : 3 ≤ j ∧ j < 76 ∧ (j < 10 ∨ 16 ≤ j)) (hq : qA k 0 p = false) (h6 : j ≠ 6) : Rel (B + 2000) (wI (wI μ k 0 p v) 12 0 0 0) (wI (m0 ν) 61 0 j v) := by
  obtain ⟨-, hR, ok, h9, hx⟩ := Rel_i h
  have ok' := OkR_mono ok (show B ≤ B + 2000 by omega)
  have ec : rI (wI (m0 ν) 61 0 j v) 61 0 = upd (rI ν 61 0) j v := by rw [wI_upd, m0_c]
  refine Rel_m ?_ ?_ ?_ ?_ (RelX_c hx ok (kq_wI rfl (kq_wI hq kq_r)) (kq_wI (qA_c hj.1 hj.2.1) (kq_wI rfl (kq_wI rfl kq_r))) (by omega))
  · rw [rI_s, rI_k (by decide), rI_s]
  · rw [ec]
    have z := Riv_u (v := v) hR ⟨_, ok⟩ hj
    rw [hk, hp] at z
    refine Riv_c z (fun a b ha => ⟨?_, rfl⟩) (fun _ _ => rfl) ?_ ?_ ?_
    · rw [rI_k (fun q => by rw [q] at ha; cases ha)]
    · rw [upd_n (by omega)]; exact ok.1.1.2
    · rw [upd_n (by omega)]; exact ok.1.2.1.2
    · rw [upd_n (by omega)]; exact ok.1.2.2.2
  · rw [ec]
    exact OkR_u ok' hv
  · rw [ec, upd_n (fun q => h6 q.symm)]
    exact h9
theorem m_oil : BoI B X11_oil X12_oil := fun μ ν h => ⟨12, _, _, rfl, rfl, Rel_u (s := 0) h (j := 8) (k := 5) (p := 5) (Or.inr (Or.inr (Or.inr (Or.inr (Or.inl ⟨rfl, ⟨by decide +kernel, by decide +kernel⟩⟩))))) rfl rfl (by omega) rfl (by decide)⟩
theorem m_rain {a : Int32} (ha : a = 0 ∨ a = 1) : BoI B (X11_rain a) (X12_rain a) := fun μ ν h => by
  obtain ⟨-, hR, ok, h9, hx⟩ := Rel_i h
  have e7 : rI μ 5 0 6 = rI ν 61 0 7 := hR.1.2.2.2.2.2.2.2.1
  have eM : X12_rain a ν = X12_rain_J22 a 7 (m0 ν) := by
    unfold X12_rain
    rcases ha with rfl | rfl
    · rw [if_pos rfl]
    · rw [if_neg (by decide +kernel)]
  have i7 : inb 7 1740 = true := by decide +kernel
  have x7 : ix 7 = 7 := by decide +kernel
  unfold X11_rain
  rw [eM, e7]
  unfold X12_rain_J22 X12_becomes
  rw [if_pos i7, x7, m0_k (by decide)]
  by_cases c : rI ν 61 0 7 = a
  · refine ⟨0, _, _, ?_, ?_, re_b h 9⟩
    · rw [if_pos c]; rfl
    · rw [if_pos c]; rfl
  · refine ⟨1, _, _, ?_, ?_, Rel_u (s := 0) (v := a) h (j := 7) (k := 5) (p := 6) (Or.inr (Or.inr (Or.inr (Or.inl ⟨rfl, ha⟩)))) rfl rfl (by omega) rfl (by decide)⟩
    · rw [if_neg c, if_pos ha]; rfl
    · rw [if_neg c, if_pos i7]; rfl
theorem seg_nI {a : Int32} {n : Nat} (h0 : 0 ≤ a.toInt) (h1 : a.toInt < n) (hn : n ≤ 1000) : ∃ p : Nat, a = nI p ∧ p < n ∧ (p : Int) = a.toInt := by
  obtain ⟨p, e1, e2, e3⟩ := rg_nI (x := a) (b := n) ⟨h0, by omega⟩
  exact ⟨p, e1, by omega, e3⟩
theorem m_gate (a c : Int32) : BoI B (X11_gate a c) (X12_gate a c) := fun μ ν h => by
  obtain ⟨-, hR, ok, h9, hx⟩ := Rel_i h
  have u0 := ok.1.1
  unfold rg at u0
  have e0 : rI μ 4 0 0 = rI ν 61 0 0 := hR.1.1
  unfold X11_gate X12_gate
  rw [hasR_e, bI_s, isR_e _ _ (by rw [m0_k (by decide)]; omega), bI_s, e0, m0_k (by decide)]
  by_cases c1 : 0 ≤ a.toInt ∧ a.toInt < (rI ν 61 0 0).toInt
  · rw [if_pos c1, if_neg n10, if_neg n10, isIn_i, bI_s]
    simp only [lt_i, le_i, t0, show (0 : Int64).toInt = 0 from rfl, show (99 : Int64).toInt = 99 from rfl, show (99 : Int32).toInt = 99 from rfl]
    by_cases c2 : 0 ≤ c.toInt ∧ c.toInt ≤ 99
    · obtain ⟨p, rfl, hp, hp'⟩ := seg_nI c1.1 (n := 6) (by omega) (by omega)
      have eg := (hR.2.2.1 p (by omega)).2.1
      have i6 : inb (nI p) 6 = true := inb_nI hp (by omega)
      have ig : inb (nI (22 + p)) 1740 = true := inb_nI (by omega) (by omega)
      unfold X12_becomes
      simp only [c2, show ¬ c.toInt < 0 from by omega, n10, l22, i6, ig, ix_nI (show p < 2 ^ 31 by omega), ix_nI (show 22 + p < 2 ^ 31 by omega), m0_k (show (61 : Nat) ≠ 13 by decide), eg, and_self, ↓reduceIte]
      by_cases c3 : rI ν 61 0 (22 + p) = c
      · refine ⟨-1, _, _, ?_, ?_, re_b h 9⟩
        · rw [if_pos c3]; rfl
        · rw [if_pos c3]; rfl
      · refine ⟨rI ν 61 0 (22 + p), _, _, ?_, ?_, Rel_u (s := 0) (v := c) h (j := 22 + p) (k := 30) (p := p) (Or.inr (Or.inr (Or.inr (Or.inr (Or.inr (Or.inr (Or.inr (Or.inl ⟨by omega, by omega, c2⟩)))))))) ?_ ?_ (by omega) rfl (by omega)⟩
        · rw [if_neg c3]; rfl
        · rw [if_neg c3]; rfl
        · exact (cl_ap 1 (by omega) p hp).2
        · exact (cl_ap 1 (by omega) p hp).1
    · refine ⟨-1, _, _, ?_, ?_, re_b h 5⟩
      · by_cases c3 : c.toInt < 0
        · rw [if_pos c3]; rfl
        · rw [if_neg c3, if_neg (by omega)]; rfl
      · rw [if_neg c2]; rfl
  · refine ⟨-1, _, _, ?_, ?_, re_b h 2⟩
    · rw [if_neg c1]; rfl
    · rw [if_neg c1]; rfl
theorem m_hour (hB : 0 ≤ B ∧ B ≤ 900000000) (a : Int32) : BoI B (X11_hour a) (X12_hour a) := fun μ ν h => by
  obtain ⟨-, hR, ok, h9, hx⟩ := Rel_i h
  unfold X11_hour X12_hour
  rw [isIn_i, bI_s, show (1 : Int64).toInt = 1 from rfl, show (168 : Int64).toInt = 168 from rfl]
  simp only [lt_i, le_i, t1, show (168 : Int32).toInt = 168 from rfl]
  by_cases c1 : 1 ≤ a.toInt ∧ a.toInt ≤ 168
  · rw [if_neg (show ¬ a.toInt < 1 by omega), if_pos c1.2, if_pos c1, if_neg (show ¬ (1 : Int32) = 0 by decide +kernel)]
    have e6 : rI μ 5 0 4 = rI ν 61 0 6 := hR.1.2.2.2.2.2.2.1
    have b6 := ok.2.1.2.2.2.1
    unfold rg at b6
    obtain ⟨n, rfl, hn, hn'⟩ := seg_nI (a := a) (n := 169) (by omega) (by omega) (by omega)
    have es : (rI ν 61 0 6 + nI n).toInt = (rI ν 61 0 6).toInt + (nI n).toInt := tA (by omega) (by omega)
    unfold X4_hasHours
    simp only [lt_i, e6, m0_k (show (61 : Nat) ≠ 13 by decide), es, show (9999 : Int32).toInt = 9999 from rfl]
    by_cases c2 : 9999 < (rI ν 61 0 6).toInt + (nI n).toInt
    · refine ⟨-1, _, _, ?_, ?_, re_b h 7⟩
      · rw [if_pos c2]; rfl
      · rw [if_neg (by omega)]; rfl
    · rw [if_neg c2, if_pos (show (rI ν 61 0 6).toInt + (nI n).toInt ≤ 9999 by omega), bI_s, if_neg (by decide +kernel)]
      have hv : Rv B μ 0 (m0 ν) := ⟨by rw [m0_c]; exact hR, by rw [m0_c]; exact ok⟩
      obtain ⟨g, μ', ν', e1, e2, R', s6, fr, -, k3⟩ := hours2 (by omega) n μ (m0 ν) hv (by rw [m0_k (by decide)]; omega)
      have kX := X4_passHours_fq 0 (nI n) μ g μ' (passHours_e (by omega) e1)
      rw [passHours_e (by omega) e1, bI_s]
      have eM := hourM_l54 (n := n) (by omega) n 0 fuN 0 (m0 ν) (by omega) (fuN_6 (by omega)) e2
      rw [nI_0, Int32.zero_add] at eM
      rw [eM]
      refine ⟨g, _, _, rfl, rfl, Rel_m ?_ ?_ (OkR_mono R'.2 (by omega)) ?_ (RelX_c hx ok (kq_wI rfl (kq_k kX (qA_Q (Or.inl rfl)))) (kq_t (ν := m0 ν) (kq_wI rfl (kq_wI rfl kq_r)) (kqA_m fr (fun j hj => k3 j (by omega)))) (by omega))⟩
      · rw [rI_s, fr.1 13 0 0 (Or.inl (by decide)) (by decide) (by decide), rI_s]
      · refine Riv_c R'.1 (fun k b hk => ⟨?_, rfl⟩) (fun _ _ => rfl) R'.2.1.1.2 R'.2.1.2.1.2 R'.2.1.2.2.2
        rw [rI_k (fun q => by rw [q] at hk; cases hk)]
      · rw [s6, m0_k (by decide)]
        omega
  · refine ⟨-1, _, _, ?_, ?_, re_b h 5⟩
    · by_cases c3 : a.toInt < 1
      · rw [if_pos c3]; rfl
      · rw [if_neg c3, if_neg (by omega)]; rfl
    · rw [if_neg c1]; rfl
end C84
