/-! 97d: hire, hireAt -/
section C97d
variable {B : Int} {μ ν : sM} {f : Nat → Int32}
theorem noHire_e (a b : Int32) (μ ν : sM) : X11_isNoHire a b μ = some (if (1 ≤ a.toInt ∧ a.toInt ≤ 4) ∧ 0 ≤ b.toInt ∧ b.toInt ≤ 999 then 0 else 1, μ) ∧ X12_isHire a b ν = some (if (1 ≤ a.toInt ∧ a.toInt ≤ 4) ∧ 0 ≤ b.toInt ∧ b.toInt ≤ 999 then 1 else 0, ν) := by
  constructor
  · unfold X11_isNoHire
    simp only [lt_i, le_i, t0, t1, show (4 : Int32).toInt = 4 from rfl, show (999 : Int32).toInt = 999 from rfl]
    by_cases c1 : a.toInt < 1
    · rw [if_pos c1, if_neg (by omega)]
    · rw [if_neg c1]
      by_cases c2 : 4 < a.toInt
      · rw [if_pos c2, if_neg (by omega)]
      · rw [if_neg c2]
        by_cases c3 : b.toInt < 0
        · rw [if_pos c3, if_neg (by omega)]
        · rw [if_neg c3]
          by_cases c4 : b.toInt ≤ 999
          · rw [if_pos c4, if_pos (by omega)]
          · rw [if_neg c4, if_neg (by omega)]
  · unfold X12_isHire
    rw [isIn_i, bI_s, show (1 : Int64).toInt = 1 from rfl, show (4 : Int64).toInt = 4 from rfl]
    by_cases c1 : 1 ≤ a.toInt ∧ a.toInt ≤ 4
    · rw [if_pos c1, if_neg n10, isIn_i, bI_s, show (0 : Int64).toInt = 0 from rfl, show (999 : Int64).toInt = 999 from rfl]
      by_cases c2 : 0 ≤ b.toInt ∧ b.toInt ≤ 999
      · rw [if_pos c2, if_neg n10, if_pos ⟨c1, c2⟩]
      · rw [if_neg c2, if_pos rfl, if_neg (fun q => c2 q.2)]
    · rw [if_neg c1, if_pos rfl, if_neg (fun q => c1 q.1)]
theorem hire2 (hB : 0 ≤ B ∧ B ≤ 900000000) (h : Rel B μ ν) {hands : Nat} (h1 : 1 ≤ hands ∧ hands ≤ 4) {want : Int32} (hw : rg want 0 999) : ∃ x μ' ν', X0_hireFor 0 (nI hands) want μ = some (x, μ') ∧ X12_isHired (nI hands) want (m0 ν) = some (if 0 ≤ x.toInt then 1 else 0, ν') ∧ rI ν' 13 0 33 = x ∧ (x = -1 ∨ (0 ≤ x.toInt ∧ ∀ j, j < hands → rI μ' 21 0 j = rI ν' 69 0 j)) ∧ kq qB μ μ' ∧ kM ν ν' ∧ (∀ j, j < 76 → rI ν' 61 0 j = rI ν 61 0 j) ∧ rI ν' 13 0 0 = 0 := by
  obtain ⟨-, hR, ok, h9, hx⟩ := Rel_i h
  have em : imn (nI hands) 4 = nI hands := by
    apply Int32.toInt_inj.mp
    have := nI_toInt (n := hands) (by omega)
    rw [tmn, show (4 : Int32).toInt = 4 from rfl]
    omega
  have k0 : keep nA μ (wI (wI (wI μ 1 0 6 (nI hands)) 1 0 7 want) 1 0 8 (-1)) := keep_wI rfl (keep_wI rfl (keep_wI rfl keep_r))
  obtain ⟨μ1, e1, R1, k1⟩ := copy4 (Riv_A hR ok k0) ok
  have kr : keep (nR 4) (wI (wI (wI μ 1 0 6 (nI hands)) 1 0 7 want) 1 0 8 (-1)) μ1 := X4_copyFrom_fr 4 0 _ μ1 (by
    unfold X0_copyOf at e1
    obtain ⟨ρ, w, w2⟩ := bV_inv e1
    cases w2
    exact w)
  have a0 : ag (wI (m0 ν) 13 0 33 (-1)) (rI ν 61 0) := fun j hj => by rw [rI_k (by decide), m0_k (by decide)]
  obtain ⟨μ', ν', x1, x2, x3, x4, x5⟩ := jo hB h1.2 hw hands 6 0 (rI ν 61 0) μ1 (wI (m0 ν) 13 0 33 (-1)) 0 0 (by omega) (by omega) R1 ok a0 (by omega) (by rw [kf kr rfl, rI_j (by decide), rI_j (by decide), rI_s]) (by rw [kf kr rfl, rI_j (by decide), rI_s]) (by rw [t0]; omega) (by rw [t0]; omega) ⟨by rw [kf kr rfl, rI_s, rI_s], Or.inl rI_s⟩ (fun j hj => by omega)
  rw [nI_0] at x1 x2
  rw [Int32.sub_zero] at x2
  refine ⟨rI μ' 1 0 8, μ', ν', ?_, ?_, x3.1.symm, ?_, ?_, ?_, fun j hj => ?_, ?_⟩
  · unfold X0_hireFor X0_tryHands
    rw [em, e1, bA_s, x1, bV_s]
  · unfold X12_isHired X12_hires
    rw [x2, bV_s, x3.1]
    simp only [lt_i, t0]
    by_cases c : 0 ≤ (rI ν' 13 0 33).toInt
    · rw [if_pos c, if_neg (by omega)]
    · rw [if_neg c, if_pos (by omega)]
  · rw [x3.1]
    exact x3.2
  · refine kq_t (kq_k (keep_t k0 k1) qB_A) (kq_k x4.1 (fun k i j hq => ?_))
    have z := qB_A k i j hq
    unfold nA at z
    unfold nH
    simp only [Bool.not_eq_true', Bool.or_eq_false_iff, Bool.and_eq_false_iff] at z ⊢
    refine ⟨z.1, z.2.1, z.2.2.1, z.2.2.2.elim Or.inl (fun y => Or.inr ?_)⟩
    apply Bool.eq_false_iff.mpr
    intro q
    rw [Nat.ble_eq] at q
    rw [Nat.ble_eq_true_of_le (show 4 ≤ i by omega)] at y
    cases y
  · exact kM_t (kM_wI (Or.inl rfl) (kM_q m0_q)) x5.2.2.2.1
  · rw [x5.1 j hj, rI_k (by decide), m0_k (by decide)]
  · rw [x5.2.2.2.2, rI_j (by decide), rI_s]
theorem m_hire (hB : 0 ≤ B ∧ B ≤ 900000000) (a b : Int32) : BoI B (X11_hire a b) (X12_hire a b) := fun μ ν h => by
  unfold X11_hire X12_hire
  rw [(noHire_e a b μ (m0 ν)).1, (noHire_e a b μ (m0 ν)).2, bI_s, bI_s]
  by_cases c : (1 ≤ a.toInt ∧ a.toInt ≤ 4) ∧ 0 ≤ b.toInt ∧ b.toInt ≤ 999
  · obtain ⟨n, rfl, hn, hn'⟩ := seg_nI (a := a) (by omega) (n := 5) (by omega) (by omega)
    obtain ⟨x, μ', ν', x1, x2, x3, x4, x5, x6, x7, x8⟩ := hire2 hB h (hands := n) (by omega) c.2
    have hx : x = -1 ∨ 0 ≤ x.toInt := x4.elim Or.inl (fun z => Or.inr z.1)
    rw [if_pos c, if_pos rfl, if_pos c, if_neg n10, x1, bI_s, any_e hx, bI_s, x2, bI_s]
    by_cases d : 0 ≤ x.toInt
    · rw [if_pos d, if_pos d, if_neg n10, x3]
      exact ⟨x, _, _, rfl, rfl, Rel_k h x5 x6 x7 x8⟩
    · rw [if_neg d, if_neg d, if_pos rfl, hx.resolve_right d]
      refine ⟨-1, _, _, rfl, rfl, Rel_k h x5 (kM_wI (Or.inl rfl) x6) (fun j hj => ?_) rI_s⟩
      rw [rI_k (by decide)]
      exact x7 j hj
  · refine ⟨-1, _, _, ?_, ?_, re_b h 5⟩
    · rw [if_neg c, if_neg n10]; rfl
    · rw [if_neg c, if_pos rfl]; rfl
theorem m_hireAt (hB : 0 ≤ B ∧ B ≤ 900000000) (a b c' : Int32) : BoI B (X11_hireAt a b c') (X12_hireAt a b c') := fun μ ν h => by
  unfold X11_hireAt X12_hireAt
  rw [(noHire_e a b μ (m0 ν)).1, (noHire_e a b μ (m0 ν)).2, bI_s, bI_s]
  by_cases c : (1 ≤ a.toInt ∧ a.toInt ≤ 4) ∧ 0 ≤ b.toInt ∧ b.toInt ≤ 999
  · obtain ⟨n, rfl, hn, hn'⟩ := seg_nI (a := a) (by omega) (n := 5) (by omega) (by omega)
    have te : ((nI n - 1).toInt64).toInt = (nI n).toInt - 1 := by rw [tX, tS (by rw [t1]; omega) (by rw [t1]; omega), t1]
    rw [if_pos c, if_pos rfl, if_pos c, if_neg n10, isIn_i, bI_s, te, show (0 : Int64).toInt = 0 from rfl]
    simp only [lt_i, t0]
    by_cases c2 : 0 ≤ c'.toInt ∧ c'.toInt ≤ (nI n).toInt - 1
    · obtain ⟨p, rfl, hp, hp'⟩ := seg_nI (a := c') (by omega) (n := 4) (by omega) (by omega)
      obtain ⟨x, μ', ν', x1, x2, x3, x4, x5, x6, x7, x8⟩ := hire2 hB h (hands := n) (by omega) c.2
      rw [if_neg (show ¬ (nI p).toInt < 0 by omega), if_pos (show (nI p).toInt < (nI n).toInt by omega), x1, bI_s, if_pos c2, if_neg n10, x2, bI_s]
      rcases x4 with x4 | x4
      · rw [if_pos x4, x4, if_neg (show ¬ 0 ≤ (-1 : Int32).toInt by decide +kernel), if_pos rfl]
        refine ⟨-1, _, _, rfl, rfl, Rel_k h x5 (kM_wI (Or.inl rfl) x6) (fun j hj => ?_) rI_s⟩
        rw [rI_k (by decide)]
        exact x7 j hj
      · have ne : ¬ x = -1 := fun q => by rw [q, m1_q] at x4; omega
        rw [if_neg ne, if_pos x4.1, if_neg n10, if_pos (inb_nI hp (by omega)), if_pos (inb_nI hp (by omega)), ix_nI (by omega), x4.2 p (by omega)]
        exact ⟨rI ν' 69 0 p, _, _, rfl, rfl, Rel_k h x5 x6 x7 x8⟩
    · refine ⟨-1, _, _, ?_, ?_, re_b h 5⟩
      · by_cases d : c'.toInt < 0
        · rw [if_pos d]; rfl
        · rw [if_neg d, if_neg (by omega)]; rfl
      · rw [if_neg c2]; rfl
  · refine ⟨-1, _, _, ?_, ?_, re_b h 5⟩
    · rw [if_neg c, if_neg n10]; rfl
    · rw [if_neg c, if_pos rfl]; rfl
end C97d
