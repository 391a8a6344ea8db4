/-! 93: a river copied; what is tried out and taken back -/
section C93
variable {B : Int} {μ ν : sM} {f : Nat → Int32} {a r n : Nat}
theorem x0_ : ix 0 = 0 := by decide +kernel
theorem cp_o (h : n ≤ 6) : cpo 0 0 (nI n) 6 6 = true := by
  unfold cpo
  rw [nI_clamp (show n < 2 ^ 31 by omega)]
  exact decide_eq_true ⟨by decide +kernel, by decide +kernel, nI_pos (by omega), by rw [show (0 : Int32).toNatClampNeg = 0 from by decide +kernel]; omega, by rw [show (0 : Int32).toNatClampNeg = 0 from by decide +kernel]; omega⟩
abbrev C3 (μ : sM) (a r n : Nat) : sM := cI (cI (cI (cL (wI μ 4 a 0 (nI n)) 28 r 0 28 a 0 n) 29 r 0 29 a 0 n) 30 r 0 30 a 0 n) 31 r 0 31 a 0 n
abbrev C2 (μ : sM) (a r n : Nat) : sM := cI (cI (cI (cL (wI μ 3 a 0 (nI n)) 24 r 0 24 a 0 n) 25 r 0 25 a 0 n) 26 r 0 26 a 0 n) 27 r 0 27 a 0 n
abbrev C10 (μ : sM) (a r n : Nat) : sM := cI (cI (cI (cI (cL (wI μ 11 a 0 (nI n)) 50 r 0 50 a 0 n) 51 r 0 51 a 0 n) 52 r 0 52 a 0 n) 53 r 0 53 a 0 n) 54 r 0 54 a 0 n
theorem cp3 (h : rI μ 4 r 0 = nI n) (hn : n ≤ 6) : X3_copyFrom a r μ = some (C3 μ a r n) := by
  unfold X3_copyFrom
  rw [rI_s, h, if_pos (cp_o hn), if_pos (cp_o hn), if_pos (cp_o hn), if_pos (cp_o hn), x0_, ix_nI (by omega)]
theorem cp2 (h : rI μ 3 r 0 = nI n) (hn : n ≤ 6) : X2_copyFrom a r μ = some (C2 μ a r n) := by
  unfold X2_copyFrom
  rw [rI_s, h, if_pos (cp_o hn), if_pos (cp_o hn), if_pos (cp_o hn), if_pos (cp_o hn), x0_, ix_nI (by omega)]
theorem cp10 (h : rI μ 11 r 0 = nI n) (hn : n ≤ 6) : X10_copyFrom a r μ = some (C10 μ a r n) := by
  unfold X10_copyFrom
  rw [rI_s, h, if_pos (cp_o hn), if_pos (cp_o hn), if_pos (cp_o hn), if_pos (cp_o hn), if_pos (cp_o hn), x0_, ix_nI (by omega)]
abbrev C4 (μ : sM) (a r : Nat) : sM := cL (wI (wI (wI (wI (wI (wI (wI μ 5 a 0 (rI μ 5 r 0)) 5 a 1 (rI μ 5 r 1)) 5 a 2 (rI μ 5 r 2)) 5 a 3 (rI μ 5 r 3)) 5 a 4 (rI μ 5 r 4)) 5 a 5 (rI μ 5 r 5)) 5 a 6 (rI μ 5 r 6)) 34 r 0 34 a 0 6
theorem copyR (hR : Riv μ r f) (ok : OkR B f) (ha : r ≠ a) : ∃ μ', X4_copyFrom a r μ = some μ' ∧ Riv μ' a f ∧ (∀ j : Nat, (j : Int) < (f 0).toInt → rL μ' 28 a j = rL μ 28 r j) ∧ (∀ j : Nat, (j : Int) < (f 1).toInt → rL μ' 24 a j = rL μ 24 r j) ∧ (∀ j : Nat, (j : Int) < (f 2).toInt → rL μ' 50 a j = rL μ 50 r j) := by
  obtain ⟨n, hn, n6, hn'⟩ := rg_nI (b := 6) ok.1.1
  obtain ⟨m, hm, m6, hm'⟩ := rg_nI (b := 6) ok.1.2.1
  obtain ⟨d, hd, d6, hd'⟩ := rg_nI (b := 6) ok.1.2.2
  obtain ⟨⟨c0, c1, c2, c3, c4, c5, c6, c7, c8, c9⟩, gw, gr, gm, gd⟩ := hR
  have b7 := ok.2.1.2.2.2.2.1
  refine ⟨C10 (C2 (C3 (C4 μ a r) a r n) a r m) a r d, ?_, ⟨⟨?_, ?_, ?_, ?_, ?_, ?_, ?_, ?_, ?_, ?_⟩, fun j hj => ?_, fun j hj => ?_, fun j hj => ?_, fun j hj => ?_⟩, fun j hj => ?_, fun j hj => ?_, fun j hj => ?_⟩
  · unfold X4_copyFrom
    rw [if_pos (by rw [c7]; exact b7), if_pos (by decide +kernel), x0_, show ix 6 = 6 from by decide +kernel]
    rw [cp3 (μ := C4 μ a r) (n := n) (by simp only [rI_cL, rI_wI]; simp [c0, hn]) n6, bV_s]
    rw [cp2 (μ := C3 (C4 μ a r) a r n) (n := m) (by simp [rI_cI, rI_cL, rI_wI, c1, hm]) m6, bV_s]
    rw [cp10 (μ := C2 (C3 (C4 μ a r) a r n) a r m) (n := d) (by simp [rI_cI, rI_cL, rI_wI, c2, hd]) d6, bV_s]
  · simp [rI_cI, rI_cL, rI_wI, hn]
  · simp [rI_cI, rI_cL, rI_wI, hm]
  · simp [rI_cI, rI_cL, rI_wI, hd]
  · simp [rI_cI, rI_cL, rI_wI, c3]
  · simp [rI_cI, rI_cL, rI_wI, c4]
  · simp [rI_cI, rI_cL, rI_wI, c5]
  · simp [rI_cI, rI_cL, rI_wI, c6]
  · simp [rI_cI, rI_cL, rI_wI, c7]
  · simp [rI_cI, rI_cL, rI_wI, c8]
  · simp [rI_cI, rI_cL, rI_wI, c9]
  · simp [rL_cI, rL_cL, rL_wI, hj, gw j hj]
  · have z := gr j hj
    have hj' : j < n := by omega
    simp [rI_cI, rI_cL, rI_wI, hj', ha, z.1, z.2.1, z.2.2]
  · have z := gm j hj
    have hj' : j < m := by omega
    simp [rI_cI, rI_cL, rI_wI, hj', ha, z.1, z.2.1, z.2.2]
  · have z := gd j hj
    have hj' : j < d := by omega
    simp [rI_cI, rI_cL, rI_wI, hj', ha, z.1, z.2.1, z.2.2.1, z.2.2.2]
  · have hj' : j < n := by omega
    simp [rL_cI, rL_cL, rL_wI, hj', ha]
  · have hj' : j < m := by omega
    simp [rL_cI, rL_cL, rL_wI, hj', ha]
  · have hj' : j < d := by omega
    simp [rL_cI, rL_cL, rL_wI, hj', ha]
theorem look_e (h : Rel B μ ν) : ∃ μ1, X0_copyOf 0 μ = some (4, μ1) ∧ Riv μ1 4 (rI ν 61 0) ∧ keep (nR 4) μ μ1 := by
  obtain ⟨-, hR, ok, -, -⟩ := Rel_i h
  obtain ⟨μ1, e1, R1, -⟩ := copyR hR ok (a := 4) (by decide)
  refine ⟨μ1, ?_, R1, X4_copyFrom_fr 4 0 μ μ1 e1⟩
  unfold X0_copyOf
  rw [e1, bV_s]
theorem qB_R {r : Nat} (hr : 4 ≤ r) : ∀ k i j, qB k i j = true → nR r k i = true := by
  intro k i j h
  unfold nR
  by_cases z : rk k = true ∧ i = r
  · exfalso
    obtain ⟨z1, z2⟩ := z
    unfold rk at z1
    unfold qB qA qF qT qP qN qW qK qV qR at h
    simp only [Bool.or_eq_true, Bool.and_eq_true, beq_iff_eq, Nat.ble_eq, rk] at h z1
    omega
  · simp only [Bool.not_eq_true', Bool.and_eq_false_iff]
    by_cases y : rk k = true
    · right
      simp only [beq_eq_false_iff_ne]
      exact fun q => z ⟨y, q⟩
    · left
      simpa using y
theorem nR_nQ {r : Nat} : ∀ k i, nR r k i = true → nQ r k i = true := by
  intro k i h
  unfold nR at h
  unfold nQ
  by_cases z : rk2 k = true ∧ i = r
  · exfalso
    obtain ⟨z1, z2⟩ := z
    have : rk k = true := by
      unfold rk2 at z1
      unfold rk
      simp only [Bool.or_eq_true, Bool.and_eq_true, beq_iff_eq, Nat.ble_eq] at z1 ⊢
      omega
    rw [this, z2] at h
    simp at h
  · simp only [Bool.not_eq_true', Bool.and_eq_false_iff]
    by_cases y : rk2 k = true
    · right
      simp only [beq_eq_false_iff_ne]
      exact fun q => z ⟨y, q⟩
    · left
      simpa using y
/-! the reference: puts, gives -/
abbrev pt (ν : sM) : sM := sC ν 62 0 (fun j => if j < 76 then rI ν 61 0 j else rI ν 62 0 j)
theorem puts_l : ∀ (k i fu : Nat) (ν : sM), i + k = 76 → k < fu → X12_puts_L2 fu (nI i) ν = some (sC ν 62 0 (fun j => if i ≤ j ∧ j < 76 then rI ν 61 0 j else rI ν 62 0 j))
  | 0, i, fu + 1, μ, h, _ => by
    unfold X12_puts_L2
    rw [if_pos (show (76 : Int32) ≤ nI i from nI_le (a := 76) (by omega) (by omega)), sC_id]
    intro j
    rw [if_neg (by omega)]
  | k + 1, i, fu + 1, μ, h, hf => by
    unfold X12_puts_L2
    rw [if_neg (show ¬ (76 : Int32) ≤ nI i from nI_ge (b := 76) (by omega) (by omega)), if_pos (inb_nI (by omega) (by omega)), if_pos (inb_nI (by omega) (by omega)), ix_nI (by omega), nI_1, puts_l k (i + 1) fu _ (by omega) (by omega), sC_wI]
    congr 1
    apply sC_c
    intro j
    rw [rI_k (by decide)]
    by_cases e : j = i
    · subst e
      rw [if_neg (by omega), if_pos ⟨Nat.le_refl j, by omega⟩, rI_s]
    · rw [rI_j e]
      by_cases q : i + 1 ≤ j ∧ j < 76
      · rw [if_pos q, if_pos ⟨by omega, q.2⟩]
      · rw [if_neg q, if_neg (by omega)]
theorem puts_e (ν : sM) : X12_puts ν = some (pt ν) := by
  unfold X12_puts
  have h := puts_l 76 0 fuN ν (by omega) (fuN_6 (by omega))
  rw [nI_0] at h
  rw [h]
  exact congrArg some (sC_c _ _ _ (fun j => by simp only [Nat.zero_le, true_and]))
theorem gives_l : ∀ (k i fu : Nat) (ν : sM), i + k = 76 → k < fu → X12_gives_L2 fu (nI i) ν = some (sC ν 61 0 (fun j => if i ≤ j ∧ j < 76 then rI ν 62 0 j else rI ν 61 0 j))
  | 0, i, fu + 1, μ, h, _ => by
    unfold X12_gives_L2
    rw [if_pos (show (76 : Int32) ≤ nI i from nI_le (a := 76) (by omega) (by omega)), sC_id]
    intro j
    rw [if_neg (by omega)]
  | k + 1, i, fu + 1, μ, h, hf => by
    unfold X12_gives_L2
    rw [if_neg (show ¬ (76 : Int32) ≤ nI i from nI_ge (b := 76) (by omega) (by omega)), if_pos (inb_nI (by omega) (by omega)), if_pos (inb_nI (by omega) (by omega)), ix_nI (by omega), nI_1, gives_l k (i + 1) fu _ (by omega) (by omega), sC_wI]
    congr 1
    apply sC_c
    intro j
    rw [rI_k (by decide)]
    by_cases e : j = i
    · subst e
      rw [if_neg (by omega), if_pos ⟨Nat.le_refl j, by omega⟩, rI_s]
    · rw [rI_j e]
      by_cases q : i + 1 ≤ j ∧ j < 76
      · rw [if_pos q, if_pos ⟨by omega, q.2⟩]
      · rw [if_neg q, if_neg (by omega)]
abbrev gt (ν : sM) : sM := sC ν 61 0 (fun j => if j < 76 then rI ν 62 0 j else rI ν 61 0 j)
theorem gives_e (ν : sM) : X12_gives ν = some (gt ν) := by
  unfold X12_gives
  have h := gives_l 76 0 fuN ν (by omega) (fuN_6 (by omega))
  rw [nI_0] at h
  rw [h]
  exact congrArg some (sC_c _ _ _ (fun j => by simp only [Nat.zero_le, true_and]))
/-- taken back: nothing that the relation speaks of has changed -/
theorem gt_c {ν1 : sM} (h : mfr (pt ν) ν1) : rI (gt ν1) 61 0 = rI ν 61 0 := by
  funext j
  rw [sC_s]
  by_cases e : j < 76
  · rw [if_pos e, h.1 62 0 j (Or.inl (by decide)) (by decide) (by decide), sC_s, if_pos e]
  · rw [if_neg e, h.1 61 0 j (Or.inr (Or.inl (by omega))) (by decide) (by decide), sC_k (by decide)]
theorem gt_o {ν1 : sM} (h : mfr (pt ν) ν1) {k i j : Nat} (hk : k ≠ 62 ∧ k ≠ 65 ∧ k ≠ 66) : rI (gt ν1) k i j = rI ν k i j ∧ rL (gt ν1) k i j = rL ν k i j := by
  refine ⟨?_, h.2.1 k i j⟩
  by_cases e : k = 61
  · subst e
    by_cases d : i = 0
    · subst d
      exact congrFun (gt_c h) j
    · rw [rI_sC, if_neg (fun q => d q.2), h.1 61 i j (Or.inr (Or.inr d)) hk.2.1 hk.2.2, sC_k hk.1]
  · rw [sC_k e, h.1 k i j (Or.inl e) hk.2.1 hk.2.2, sC_k hk.1]
theorem qB_n {k i j : Nat} (h : qB k i j = true) : k ≠ 62 ∧ k ≠ 65 ∧ k ≠ 66 := by
  unfold qB qA qF qT qP qN qW qK qV qR at h
  simp only [Bool.or_eq_true, Bool.and_eq_true, beq_iff_eq, Nat.ble_eq, rk] at h
  omega
theorem gt_q {ν1 : sM} (h : mfr (pt ν) ν1) : kq qB ν (gt ν1) := fun k i j hk => gt_o h (qB_n hk)
/-- an answer of what was tried out -/
theorem Rel_a {μ' ν1 : sM} (h : Rel B μ ν) (a : keep (nR 4) μ μ') (c : mfr (pt (m0 ν)) ν1) : Rel (B + 2000) (wI μ' 12 0 0 0) (gt ν1) :=
  Rel_q h (kq_wI rfl (kq_k a (qB_R (by omega)))) (kq_t m0_q (gt_q c)) (by rw [rI_s, (gt_o c (by decide)).1, rI_s]) (by omega)
theorem Rel_a8 {μ' ν1 : sM} (h : Rel B μ ν) (s : Int32) (a : keep (nR 4) μ μ') (c : mfr (pt (m0 ν)) ν1) : Rel (B + 2000) (wI μ' 12 0 0 s) (wI (gt ν1) 13 0 0 s) :=
  Rel_q h (kq_wI rfl (kq_k a (qB_R (by omega)))) (kq_wI rfl (kq_t m0_q (gt_q c))) (by rw [rI_s, rI_s]) (by omega)
theorem far_e (a : Int32) (μ ν : sM) : X11_isTooFar a μ = some (if 0 ≤ a.toInt ∧ a.toInt ≤ 500 then 0 else 1, μ) ∧ X12_isAhead a ν = some (if 0 ≤ a.toInt ∧ a.toInt ≤ 500 then 1 else 0, ν) := by
  constructor
  · unfold X11_isTooFar
    simp only [lt_i, le_i, t0, show (500 : Int32).toInt = 500 from rfl]
    by_cases c : a.toInt < 0
    · rw [if_pos c, if_neg (by omega)]
    · rw [if_neg c]
      by_cases d : a.toInt ≤ 500
      · rw [if_pos d, if_pos (by omega)]
      · rw [if_neg d, if_neg (by omega)]
  · unfold X12_isAhead
    rw [isIn_i, bI_s, show (0 : Int64).toInt = 0 from rfl, show (500 : Int64).toInt = 500 from rfl]
    by_cases c : 0 ≤ a.toInt ∧ a.toInt ≤ 500
    · rw [if_pos c, if_pos (by decide +kernel)]
    · rw [if_neg c, if_pos (by decide +kernel)]
/-- n HOURS ahead, on both sides -/
theorem ahead2 (h : Rel B μ ν) (hB : 0 ≤ B ∧ B ≤ 900000000) {n : Nat} (hn : n ≤ 500) : ∃ μ' ν', X0_later 0 (nI n) μ = some (4, μ') ∧ Riv μ' 4 (rI ν' 61 0) ∧ OkR B (rI ν' 61 0) ∧ keep (nR 4) μ μ' ∧ mfr (pt (m0 ν)) ν' ∧ (∀ c : Nat, c < 76 → X12_cellIn (nI c) (nI n) (m0 ν) = some (rI ν' 61 0 c, gt ν')) ∧ (∀ j, j < 6 ∨ j = 7 ∨ (34 ≤ j ∧ j < 46) ∨ 52 ≤ j → rI ν' 61 0 j = rI ν 61 0 j) := by
  obtain ⟨-, hR, ok, h9, -⟩ := Rel_i h
  obtain ⟨μ1, e1, R1, k1⟩ := look_e h
  have ec : rI (pt (m0 ν)) 61 0 = rI ν 61 0 := funext fun j => by rw [sC_k (by decide), m0_k (by decide)]
  have hv : Rv B μ1 4 (pt (m0 ν)) := ⟨by rw [ec]; exact R1, by rw [ec]; exact ok⟩
  obtain ⟨g, μ', ν', e3, e4, R', s6, fr, -, k3⟩ := hours2 (by omega) n μ1 (pt (m0 ν)) hv (by rw [ec]; omega)
  have e5 := passHours_e (by omega) e3
  refine ⟨μ', ν', ?_, R'.1, R'.2, keep_t k1 (keep_m (X4_passHours_fq 4 (nI n) μ1 g μ' e5) nR_nQ), fr, fun c hc => ?_, fun j hj => by rw [k3 j hj, ec]⟩
  · unfold X0_later
    rw [e1, bA_s, e5, bI_s]
  · unfold X12_cellIn
    have z := cellIn_l (n := n) (by omega) (nI c) n 0 fuN (pt (m0 ν)) (by omega) (fuN_6 (by omega)) e4
    rw [nI_0] at z
    rw [puts_e, bV_s, z, if_pos (inb_nI (by omega) (by omega)), gives_e, bV_s, ix_nI (by omega)]
theorem m_turnsIn (hB : 0 ≤ B ∧ B ≤ 900000000) (a : Int32) : BoI B (X11_turnsIn a) (X12_turnsIn a) := fun μ ν h => by
  unfold X11_turnsIn X12_turnsIn
  rw [(far_e a μ (m0 ν)).1, (far_e a μ (m0 ν)).2, bI_s, bI_s]
  by_cases c : 0 ≤ a.toInt ∧ a.toInt ≤ 500
  · obtain ⟨n, rfl, hn, hn'⟩ := seg_nI c.1 (n := 501) (by omega) (by omega)
    obtain ⟨μ', ν', e1, R', -, k1, fr, e2, -⟩ := ahead2 h hB (n := n) (by omega)
    refine ⟨rI ν' 61 0 9, _, _, ?_, ?_, Rel_a h k1 fr⟩
    · rw [if_pos c, if_pos rfl, e1, bA_s, R'.1.2.2.2.2.2.2.2.2.2]; rfl
    · rw [if_pos c, if_neg n10, show (9 : Int32) = nI 9 from rfl, e2 9 (by omega)]; rfl
  · refine ⟨-1, _, _, ?_, ?_, re_b h 5⟩
    · rw [if_neg c, if_neg n10]; rfl
    · rw [if_neg c, if_pos rfl]; rfl
theorem m_storedIn (hB : 0 ≤ B ∧ B ≤ 900000000) (a b : Int32) : BoI B (X11_storedIn a b) (X12_storedIn a b) := fun μ ν h => by
  obtain ⟨-, hR, ok, h9, hx⟩ := Rel_i h
  have u := ok.1.1
  unfold rg at u
  unfold X11_storedIn X12_storedIn
  rw [hasR_e, bI_s, isR_e _ _ (by rw [m0_k (by decide)]; omega), bI_s, hR.1.1, m0_k (by decide)]
  by_cases c1 : 0 ≤ a.toInt ∧ a.toInt < (rI ν 61 0 0).toInt
  · rw [if_pos c1, if_neg n10, if_neg n10, (far_e b μ (m0 ν)).1, (far_e b μ (m0 ν)).2, bI_s, bI_s]
    obtain ⟨p, rfl, hp, hp'⟩ := seg_nI c1.1 (n := 6) (by omega) (by omega)
    by_cases c : 0 ≤ b.toInt ∧ b.toInt ≤ 500
    · obtain ⟨n, rfl, hn, hn'⟩ := seg_nI c.1 (n := 501) (by omega) (by omega)
      obtain ⟨μ', ν', e1, R', -, k1, fr, e2, k3⟩ := ahead2 h hB (n := n) (by omega)
      refine ⟨rI ν' 61 0 (28 + p), _, _, ?_, ?_, Rel_a h k1 fr⟩
      · rw [if_pos c, if_pos rfl, e1, bA_s, if_pos (inb_nI hp (by omega)), ix_nI (by omega), (R'.2.2.1 p (by rw [k3 0 (by omega)]; omega)).2.2]; rfl
      · rw [if_pos c, if_neg n10, l28, e2 _ (by omega)]; rfl
    · refine ⟨-1, _, _, ?_, ?_, re_b h 5⟩
      · rw [if_neg c, if_neg n10]; rfl
      · rw [if_neg c, if_pos rfl]; rfl
  · refine ⟨-1, _, _, ?_, ?_, re_b h 2⟩
    · rw [if_neg c1]; rfl
    · rw [if_neg c1]; rfl
theorem nR_0 {k : Nat} : nR 4 k 0 = true := by
  unfold nR
  simp
theorem m_groundIn (hB : 0 ≤ B ∧ B ≤ 900000000) (a b : Int32) : BoI B (X11_groundIn a b) (X12_groundIn a b) := fun μ ν h => by
  obtain ⟨-, hR, ok, h9, hx⟩ := Rel_i h
  have u := ok.1.2.1
  unfold rg at u
  unfold X11_groundIn X12_groundIn
  rw [hasM_e, bI_s, isM_e _ _ (by rw [m0_k (by decide)]; omega), bI_s, hR.1.2.1, m0_k (by decide)]
  by_cases c1 : 0 ≤ a.toInt ∧ a.toInt < (rI ν 61 0 1).toInt
  · rw [if_pos c1, if_neg n10, if_neg n10, (far_e b μ (m0 ν)).1, (far_e b μ (m0 ν)).2, bI_s, bI_s]
    obtain ⟨p, rfl, hp, hp'⟩ := seg_nI c1.1 (n := 6) (by omega) (by omega)
    by_cases c : 0 ≤ b.toInt ∧ b.toInt ≤ 500
    · obtain ⟨n, rfl, hn, hn'⟩ := seg_nI c.1 (n := 501) (by omega) (by omega)
      obtain ⟨μ', ν', e1, R', -, k1, fr, e2, k3⟩ := ahead2 h hB (n := n) (by omega)
      refine ⟨rI ν' 61 0 (46 + p) - rI ν 61 0 (46 + p), _, _, ?_, ?_, Rel_a h k1 fr⟩
      · rw [if_pos c, if_pos rfl, e1, bA_s, if_pos (inb_nI hp (by omega)), if_pos (inb_nI hp (by omega)), ix_nI (by omega), (R'.2.2.2.1 p (by rw [k3 1 (by omega)]; omega)).2.2, (k1 27 0 nR_0 p).1, (hR.2.2.2.1 p (by omega)).2.2]; rfl
      · rw [if_pos c, if_neg n10, l46, e2 _ (by omega), bI_s, if_pos (inb_nI (by omega) (by omega)), ix_nI (by omega), gt_c fr, m0_k (by decide)]
    · refine ⟨-1, _, _, ?_, ?_, re_b h 5⟩
      · rw [if_neg c, if_neg n10]; rfl
      · rw [if_neg c, if_pos rfl]; rfl
  · refine ⟨-1, _, _, ?_, ?_, re_b h 2⟩
    · rw [if_neg c1]; rfl
    · rw [if_neg c1]; rfl
theorem m_seaIn (hB : 0 ≤ B ∧ B ≤ 900000000) (a : Int32) : BoL B (X11_seaIn a) (X12_seaIn a) := fun μ ν h => by
  obtain ⟨-, hR, ok, h9, hx⟩ := Rel_i h
  unfold X11_seaIn X12_seaIn
  rw [(far_e a μ (m0 ν)).1, (far_e a μ (m0 ν)).2, bI_s, bI_s]
  by_cases c : 0 ≤ a.toInt ∧ a.toInt ≤ 500
  · obtain ⟨n, rfl, hn, hn'⟩ := seg_nI c.1 (n := 501) (by omega) (by omega)
    have h' : Rel B (wI μ 12 0 0 0) (m0 ν) := Rel_q h (kq_wI rfl kq_r) m0_q (by rw [rI_s, rI_s]) (by omega)
    obtain ⟨μ', ν', e1, R', ok', k1, fr, e2, k3⟩ := ahead2 h' hB (n := n) (by omega)
    have fr' : mfr (pt (m0 ν)) ν' := by
      have e : m0 (m0 ν) = m0 ν := by
        refine sM_ext (fun k i j => ?_) (fun _ _ _ => rfl) (fun _ _ _ => rfl)
        rw [rI_wI, rI_wI, rI_wI, rI_wI]
        by_cases z : k = 13 ∧ j = 0 ∧ i = 0
        · rw [if_pos z, if_pos z]
        · rw [if_neg z, if_neg z]
          by_cases y : k = 13 ∧ j = 1 ∧ i = 0
          · rw [if_pos y, if_pos y]
          · rw [if_neg y, if_neg y]
      rw [e] at fr
      exact fr
    have e2' : X12_cellIn 10 (nI n) (m0 ν) = some (rI ν' 61 0 10, gt ν') := by
      have z := e2 10 (by omega)
      have e : m0 (m0 ν) = m0 ν := by
        refine sM_ext (fun k i j => ?_) (fun _ _ _ => rfl) (fun _ _ _ => rfl)
        rw [rI_wI, rI_wI, rI_wI, rI_wI]
        by_cases z : k = 13 ∧ j = 0 ∧ i = 0
        · rw [if_pos z, if_pos z]
        · rw [if_neg z, if_neg z]
          by_cases y : k = 13 ∧ j = 1 ∧ i = 0
          · rw [if_pos y, if_pos y]
          · rw [if_neg y, if_neg y]
      rw [e] at z
      exact z
    refine ⟨(rI ν' 61 0 10 - rI ν 61 0 10).toInt64, μ', gt ν', ?_, ?_, ?_⟩
    · rw [if_pos c, if_pos rfl, e1, bA_s, R'.2.1 0 (by omega), (k1 34 0 nR_0 0).2.1]
      have e : rL (wI μ 12 0 0 0) 34 0 0 = (rI ν 61 0 10).toInt64 := hR.2.1 0 (by omega)
      have b1 : rg (rI ν 61 0 10) _ _ := ok.2.2.1 0 (by omega)
      have b2 : rg (rI ν' 61 0 10) _ _ := ok'.2.2.1 0 (by omega)
      have b6 := ok'.2.1.2.2.2.1
      unfold rg at b1 b2 b6
      rw [e, show rI ν' 61 0 (10 + 0) = rI ν' 61 0 10 from rfl]
      congr 2
      apply Int64.toInt_inj.mp
      rw [tX, tS (by omega) (by omega), tSL (by rw [tX, tX]; omega) (by rw [tX, tX]; omega), tX, tX]
    · rw [if_pos c, if_neg n10, e2', bI_s, gt_c fr', m0_k (by decide)]
    · refine Rel_q h (kq_t (kq_wI rfl kq_r) (kq_k k1 (qB_R (by omega)))) (kq_t m0_q (gt_q fr')) ?_ (by omega)
      rw [(k1 12 0 nR_0 0).1, rI_s, (gt_o fr' (by decide)).1, rI_s]
  · refine ⟨(-1 : Int32).toInt64, _, _, ?_, ?_, re_b h 5⟩
    · rw [if_neg c, if_neg n10]; rfl
    · rw [if_neg c, if_pos rfl]; rfl
end C93
