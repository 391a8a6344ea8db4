/-! 98n: names; new things of a RIVER that is read -/
section C98n
variable {B : Int} {μ ν : sM} {b : Nat → Int32} {n i m K s : Nat} {V : Int64}
theorem l186 (t so j : Nat) : (18 : Int32) * nI t + 6 * nI so + nI j = nI (18 * t + 6 * so + j) := by
  rw [show (18 : Int32) = nI 18 from rfl, show (6 : Int32) = nI 6 from rfl, pk_mul, pk_mul, nI_add, nI_add]
theorem place28 {r c bk so : Nat} (hc : c ≤ 6) (hb : bk < 5) (hs : so < 3) (hN : ∀ j, j < c → nmR (rL μ 28 r j) (rL ν 64 0 (18 * bk + 6 * so + j))) (hn : rI ν 61 0 (348 * bk + so) = nI c) (hv : nmR V (rL ν 13 0 19)) : ∃ x, X4_placeOf_28 V r (nI c) μ = some (x, μ) ∧ X12_named (nI bk) (nI so) ν = some (x, ν) ∧ (x = -1 ∨ ∃ j, j < c ∧ x = nI j) := by
  have key : ∀ (k i fu : Nat), i + k = c → k < fu → ∃ x, X4_placeOf_28_L3 fu V r (nI c) (nI i) μ = some (x, μ) ∧ X12_named_L2 fu (nI bk) (nI so) (nI i) ν = some (x, ν) ∧ (x = -1 ∨ ∃ j, j < c ∧ x = nI j) := by
    intro k
    induction k with
    | zero =>
      intro i fu h hf
      obtain ⟨fu, rfl⟩ : ∃ f, fu = f + 1 := ⟨fu - 1, by omega⟩
      refine ⟨-1, ?_, ?_, Or.inl rfl⟩
      · unfold X4_placeOf_28_L3
        rw [if_pos (nI_le (by omega) (by omega))]
      · unfold X12_named_L2
        rw [l348, if_pos (inb_nI (by omega) (by omega)), ix_nI (by omega), hn, if_pos (nI_le (by omega) (by omega))]
    | succ k ih =>
      intro i fu h hf
      obtain ⟨fu, rfl⟩ : ∃ f, fu = f + 1 := ⟨fu - 1, by omega⟩
      have e := nm_iff (hN i (by omega)) hv
      obtain ⟨x, x1, x2, x3⟩ := ih (i + 1) fu (by omega) (by omega)
      rw [X4_placeOf_28_L3, X12_named_L2]
      rw [if_neg (nI_ge (by omega) (by omega)), if_pos (inb_nI (by omega) (by omega)), ix_nI (by omega), l348, if_pos (inb_nI (by omega) (by omega)), ix_nI (by omega), hn, if_neg (nI_ge (by omega) (by omega)), l186, if_pos (inb_nI (by omega) (by omega)), ix_nI (by omega), nI_1]
      by_cases d : rL μ 28 r i = V
      · exact ⟨nI i, by rw [if_pos ((lgE _ _).mpr d)], by rw [if_pos ((lgE _ _).mpr (e.mp d))], Or.inr ⟨i, by omega, rfl⟩⟩
      · exact ⟨x, by rw [if_neg (fun z => d ((lgE _ _).mp z))]; exact x1, by rw [if_neg (fun z => d (e.mpr ((lgE _ _).mp z)))]; exact x2, x3⟩
  have h := key c 0 fuN (by omega) (fuN_6 (by omega))
  rw [nI_0] at h
  exact h
theorem place24 {r c bk so : Nat} (hc : c ≤ 6) (hb : bk < 5) (hs : so < 3) (hN : ∀ j, j < c → nmR (rL μ 24 r j) (rL ν 64 0 (18 * bk + 6 * so + j))) (hn : rI ν 61 0 (348 * bk + so) = nI c) (hv : nmR V (rL ν 13 0 19)) : ∃ x, X4_placeOf_24 V r (nI c) μ = some (x, μ) ∧ X12_named (nI bk) (nI so) ν = some (x, ν) ∧ (x = -1 ∨ ∃ j, j < c ∧ x = nI j) := by
  have key : ∀ (k i fu : Nat), i + k = c → k < fu → ∃ x, X4_placeOf_24_L3 fu V r (nI c) (nI i) μ = some (x, μ) ∧ X12_named_L2 fu (nI bk) (nI so) (nI i) ν = some (x, ν) ∧ (x = -1 ∨ ∃ j, j < c ∧ x = nI j) := by
    intro k
    induction k with
    | zero =>
      intro i fu h hf
      obtain ⟨fu, rfl⟩ : ∃ f, fu = f + 1 := ⟨fu - 1, by omega⟩
      refine ⟨-1, ?_, ?_, Or.inl rfl⟩
      · unfold X4_placeOf_24_L3
        rw [if_pos (nI_le (by omega) (by omega))]
      · unfold X12_named_L2
        rw [l348, if_pos (inb_nI (by omega) (by omega)), ix_nI (by omega), hn, if_pos (nI_le (by omega) (by omega))]
    | succ k ih =>
      intro i fu h hf
      obtain ⟨fu, rfl⟩ : ∃ f, fu = f + 1 := ⟨fu - 1, by omega⟩
      have e := nm_iff (hN i (by omega)) hv
      obtain ⟨x, x1, x2, x3⟩ := ih (i + 1) fu (by omega) (by omega)
      rw [X4_placeOf_24_L3, X12_named_L2]
      rw [if_neg (nI_ge (by omega) (by omega)), if_pos (inb_nI (by omega) (by omega)), ix_nI (by omega), l348, if_pos (inb_nI (by omega) (by omega)), ix_nI (by omega), hn, if_neg (nI_ge (by omega) (by omega)), l186, if_pos (inb_nI (by omega) (by omega)), ix_nI (by omega), nI_1]
      by_cases d : rL μ 24 r i = V
      · exact ⟨nI i, by rw [if_pos ((lgE _ _).mpr d)], by rw [if_pos ((lgE _ _).mpr (e.mp d))], Or.inr ⟨i, by omega, rfl⟩⟩
      · exact ⟨x, by rw [if_neg (fun z => d ((lgE _ _).mp z))]; exact x1, by rw [if_neg (fun z => d (e.mpr ((lgE _ _).mp z)))]; exact x2, x3⟩
  have h := key c 0 fuN (by omega) (fuN_6 (by omega))
  rw [nI_0] at h
  exact h
theorem place50 {r c bk so : Nat} (hc : c ≤ 6) (hb : bk < 5) (hs : so < 3) (hN : ∀ j, j < c → nmR (rL μ 50 r j) (rL ν 64 0 (18 * bk + 6 * so + j))) (hn : rI ν 61 0 (348 * bk + so) = nI c) (hv : nmR V (rL ν 13 0 19)) : ∃ x, X4_placeOf_50 V r (nI c) μ = some (x, μ) ∧ X12_named (nI bk) (nI so) ν = some (x, ν) ∧ (x = -1 ∨ ∃ j, j < c ∧ x = nI j) := by
  have key : ∀ (k i fu : Nat), i + k = c → k < fu → ∃ x, X4_placeOf_50_L3 fu V r (nI c) (nI i) μ = some (x, μ) ∧ X12_named_L2 fu (nI bk) (nI so) (nI i) ν = some (x, ν) ∧ (x = -1 ∨ ∃ j, j < c ∧ x = nI j) := by
    intro k
    induction k with
    | zero =>
      intro i fu h hf
      obtain ⟨fu, rfl⟩ : ∃ f, fu = f + 1 := ⟨fu - 1, by omega⟩
      refine ⟨-1, ?_, ?_, Or.inl rfl⟩
      · unfold X4_placeOf_50_L3
        rw [if_pos (nI_le (by omega) (by omega))]
      · unfold X12_named_L2
        rw [l348, if_pos (inb_nI (by omega) (by omega)), ix_nI (by omega), hn, if_pos (nI_le (by omega) (by omega))]
    | succ k ih =>
      intro i fu h hf
      obtain ⟨fu, rfl⟩ : ∃ f, fu = f + 1 := ⟨fu - 1, by omega⟩
      have e := nm_iff (hN i (by omega)) hv
      obtain ⟨x, x1, x2, x3⟩ := ih (i + 1) fu (by omega) (by omega)
      rw [X4_placeOf_50_L3, X12_named_L2]
      rw [if_neg (nI_ge (by omega) (by omega)), if_pos (inb_nI (by omega) (by omega)), ix_nI (by omega), l348, if_pos (inb_nI (by omega) (by omega)), ix_nI (by omega), hn, if_neg (nI_ge (by omega) (by omega)), l186, if_pos (inb_nI (by omega) (by omega)), ix_nI (by omega), nI_1]
      by_cases d : rL μ 50 r i = V
      · exact ⟨nI i, by rw [if_pos ((lgE _ _).mpr d)], by rw [if_pos ((lgE _ _).mpr (e.mp d))], Or.inr ⟨i, by omega, rfl⟩⟩
      · exact ⟨x, by rw [if_neg (fun z => d ((lgE _ _).mp z))]; exact x1, by rw [if_neg (fun z => d (e.mpr ((lgE _ _).mp z)))]; exact x2, x3⟩
  have h := key c 0 fuN (by omega) (fuN_6 (by omega))
  rw [nI_0] at h
  exact h
theorem m1_e {c : Nat} {x : Int32} (h : x = -1 ∨ ∃ j, j < c ∧ x = nI j) (hc : c ≤ 6) : (x = -1 ∧ ¬ 0 ≤ x ∧ x < 0) ∨ (∃ j, j < c ∧ x = nI j ∧ ¬ x = -1 ∧ 0 ≤ x ∧ ¬ x < 0) := by
  rcases h with rfl | ⟨j, hj, rfl⟩
  · exact Or.inl ⟨rfl, by decide +kernel, by decide +kernel⟩
  · refine Or.inr ⟨j, hj, rfl, fun z => ?_, nI_pos' (by omega), nI_pos (by omega)⟩
    have := congrArg Int32.toInt z
    rw [nI_toInt (by omega), show (-1 : Int32).toInt = -1 from rfl] at this
    omega
theorem b4 (j : Nat) : 348 * 4 + j = 1392 + j := rfl
/-- NAMES of the RIVER that is read, up to three counts -/
theorem RelN4 (h : RelN μ 4 ν 4) {c0 c1 c2 : Nat} (e0 : rI ν 61 0 1392 = nI c0) (e1 : rI ν 61 0 1393 = nI c1) (e2 : rI ν 61 0 1394 = nI c2) (h0 : c0 ≤ 6) (h1 : c1 ≤ 6) (h2 : c2 ≤ 6) : (∀ j, j < c0 → nmR (rL μ 28 4 j) (rL ν 64 0 (18 * 4 + 6 * 0 + j))) ∧ (∀ j, j < c1 → nmR (rL μ 24 4 j) (rL ν 64 0 (18 * 4 + 6 * 1 + j))) ∧ (∀ j, j < c2 → nmR (rL μ 50 4 j) (rL ν 64 0 (18 * 4 + 6 * 2 + j))) := by
  have t0 := nI_toInt (n := c0) (by omega)
  have t1 := nI_toInt (n := c1) (by omega)
  have t2 := nI_toInt (n := c2) (by omega)
  refine ⟨fun j hj => h.1 j (show (j : Int) < (rI ν 61 0 1392).toInt by rw [e0]; omega), fun j hj => h.2.1 j (show (j : Int) < (rI ν 61 0 1393).toInt by rw [e1]; omega), fun j hj => h.2.2 j (show (j : Int) < (rI ν 61 0 1394).toInt by rw [e2]; omega)⟩
theorem taken2 (h : RelN μ 4 ν 4) {c0 c1 c2 : Nat} (x0 : rI μ 4 4 0 = nI c0) (x1 : rI μ 3 4 0 = nI c1) (x2 : rI μ 11 4 0 = nI c2) (e0 : rI ν 61 0 1392 = nI c0) (e1 : rI ν 61 0 1393 = nI c1) (e2 : rI ν 61 0 1394 = nI c2) (h0 : c0 ≤ 6) (h1 : c1 ≤ 6) (h2 : c2 ≤ 6) (hv : nmR V (rL ν 13 0 19)) : ∃ x, X4_isTaken 4 V μ = some (x, μ) ∧ X12_isTaken ν = some (x, ν) ∧ (x = 0 ∨ x = 1) := by
  obtain ⟨g0, g1, g2⟩ := RelN4 h e0 e1 e2 h0 h1 h2
  obtain ⟨y0, a0, b0, p0⟩ := place28 (μ := μ) (ν := ν) (r := 4) (bk := 4) (so := 0) h0 (by omega) (by omega) g0 e0 hv
  obtain ⟨y1, a1, b1, p1⟩ := place24 (μ := μ) (ν := ν) (r := 4) (bk := 4) (so := 1) h1 (by omega) (by omega) g1 e1 hv
  obtain ⟨y2, a2, b2, p2⟩ := place50 (μ := μ) (ν := ν) (r := 4) (bk := 4) (so := 2) h2 (by omega) (by omega) g2 e2 hv
  have b0' : X12_named 4 0 ν = some (y0, ν) := b0
  have b1' : X12_named 4 1 ν = some (y1, ν) := b1
  have b2' : X12_named 4 2 ν = some (y2, ν) := b2
  unfold X4_isTaken X12_isTaken
  rw [x0, a0, bI_s, b0', bI_s]
  rcases m1_e p0 h0 with ⟨z, z', -⟩ | ⟨j, -, -, z, z', -⟩
  · rw [if_pos z, if_neg z', x1, a1, bI_s, b1', bI_s]
    rcases m1_e p1 h1 with ⟨w, w', -⟩ | ⟨j, -, -, w, w', -⟩
    · rw [if_pos w, if_neg w', x2, a2, bI_s, b2', bI_s]
      rcases m1_e p2 h2 with ⟨u, -, u'⟩ | ⟨j, -, -, u, -, u'⟩
      · exact ⟨0, by rw [if_pos u], by rw [if_pos u'], Or.inl rfl⟩
      · exact ⟨1, by rw [if_neg u], by rw [if_neg u'], Or.inr rfl⟩
    · exact ⟨1, by rw [if_neg w], by rw [if_pos w'], Or.inr rfl⟩
  · exact ⟨1, by rw [if_neg z], by rw [if_pos z'], Or.inr rfl⟩
/-! whatever stands there, the reference's questions change nothing -/
theorem so_Word (w : Int64) (ν : sM) : ∃ x, X12_isWord w ν = some (x, ν) ∧ (x = 0 ∨ x = 1) := by
  unfold X12_isWord
  by_cases c : rI ν 13 0 14 = 1
  · rw [if_pos c]
    by_cases d : lg_cmp (rL ν 13 0 19) w = 0
    · exact ⟨1, by rw [if_pos d], Or.inr rfl⟩
    · exact ⟨0, by rw [if_neg d], Or.inl rfl⟩
  · exact ⟨0, by rw [if_neg c], Or.inl rfl⟩
theorem so_Sign (w : Int32) (ν : sM) : ∃ x, X12_isSign w ν = some (x, ν) := by
  unfold X12_isSign
  by_cases c : rI ν 13 0 14 = 3
  · rw [if_pos c]
    by_cases d : rI ν 13 0 17 = w
    · exact ⟨1, by rw [if_pos d]⟩
    · exact ⟨0, by rw [if_neg d]⟩
  · exact ⟨0, by rw [if_neg c]⟩
theorem so_Bank (ν : sM) : ∃ x, X12_isBank ν = some (x, ν) := by
  unfold X12_isBank
  rw [sp_e, bL_s]
  obtain ⟨x, e, hx⟩ := so_Word (spv _ _ _ _ _ _) ν
  exact ⟨x, by rw [e, bI_s, if_pos hx]⟩
theorem so_Gate (ν : sM) : ∃ x, X12_isGate ν = some (x, ν) := by
  unfold X12_isGate
  rw [sp_e, bL_s]
  obtain ⟨x, e, hx⟩ := so_Word (spv _ _ _ _ _ _) ν
  exact ⟨x, by rw [e, bI_s, if_pos hx]⟩
theorem so_Holds (ν : sM) : ∃ x, X12_isHolds ν = some (x, ν) := by
  unfold X12_isHolds
  rw [sp_e, bL_s]
  obtain ⟨x, e, hx⟩ := so_Word (spv _ _ _ _ _ _) ν
  exact ⟨x, by rw [e, bI_s, if_pos hx]⟩
theorem so_At (ν : sM) : ∃ x, X12_isAt ν = some (x, ν) := by
  unfold X12_isAt
  rw [sp_e, bL_s]
  obtain ⟨x, e, hx⟩ := so_Word (spv _ _ _ _ _ _) ν
  exact ⟨x, by rw [e, bI_s, if_pos hx]⟩
theorem so_Needs (ν : sM) : ∃ x, X12_isNeeds ν = some (x, ν) := by
  unfold X12_isNeeds
  rw [sp_e, bL_s]
  obtain ⟨x, e, hx⟩ := so_Word (spv _ _ _ _ _ _) ν
  exact ⟨x, by rw [e, bI_s, if_pos hx]⟩
theorem so_Wage (ν : sM) : ∃ x, X12_isWage ν = some (x, ν) := by
  unfold X12_isWage
  rw [sp_e, bL_s]
  obtain ⟨x, e, hx⟩ := so_Word (spv _ _ _ _ _ _) ν
  exact ⟨x, by rw [e, bI_s, if_pos hx]⟩
theorem so_Back (ν : sM) : ∃ x, X12_isBack ν = some (x, ν) := by
  unfold X12_isBack
  rw [sp_e, bL_s]
  obtain ⟨x, e, hx⟩ := so_Word (spv _ _ _ _ _ _) ν
  exact ⟨x, by rw [e, bI_s, if_pos hx]⟩
theorem so_End (ν : sM) : ∃ x, X12_isEnd ν = some (x, ν) := by
  unfold X12_isEnd
  rw [sp_e, bL_s]
  obtain ⟨x, e, hx⟩ := so_Word (spv _ _ _ _ _ _) ν
  exact ⟨x, by rw [e, bI_s, if_pos hx]⟩
theorem so_Strength (ν : sM) : ∃ x, X12_isStrength ν = some (x, ν) := by
  unfold X12_isStrength
  rw [sp_e, bL_s]
  obtain ⟨x, e, hx⟩ := so_Word ((spv 115 116 114 101 110 103 * 32 + 20) * 32 + 8) ν
  exact ⟨x, by rw [e, bI_s, if_pos hx]⟩
abbrev endM (ρ : sM) : Option sM := bI (X12_isSign 59 ρ) fun x ρ' => X12_must x ρ'
theorem b_end {f : Nat} (h : rI ν 13 0 12 = nI f) (f1 : 1 ≤ f) (f7 : f ≤ 7) : endM ν = some ν := by
  obtain ⟨x, e⟩ := so_Sign 59 ν
  show bI (X12_isSign 59 ν) _ = _
  rw [e, bI_s, b_must h f1 f7]
/-! what reading a RIVER leaves alone -/
def qXr (k i j : Nat) : Bool := !((k == 7 && (Nat.ble 2 j && Nat.ble j 7)) || (k == 6 || (rk k && i == 4)))
def qMr (k _ j : Nat) : Bool := !((k == 13 && ((Nat.ble 12 j && Nat.ble j 19) || j == 25)) || ((k == 61 && Nat.ble 1392 j) || (k == 64 && Nat.ble 72 j)))
theorem qXr_t : ∀ k i j, qXr k i j = true → qXt k i j = true := by
  intro k i j h
  unfold qXr at h
  unfold qXt
  cases e : (k == 7 && (Nat.ble 2 j && Nat.ble j 7)) with
  | false => rfl
  | true => rw [e] at h; cases h
theorem qMr_t : ∀ k i j, qMr k i j = true → qMt k i j = true := by
  intro k i j h
  unfold qMr at h
  unfold qMt
  cases e : (k == 13 && (Nat.ble 12 j && Nat.ble j 19)) with
  | false => rfl
  | true =>
    exfalso
    rw [Bool.and_eq_true] at e
    rw [e.1, e.2] at h
    cases h
theorem qXr_R {k i j : Nat} (h : nR 4 k i = false) : qXr k i j = false := by
  unfold nR at h
  unfold qXr
  have e : (rk k && i == 4) = true := by
    cases z : (rk k && i == 4) with
    | true => rfl
    | false => rw [z] at h; cases h
  rw [e]
  simp
def FXr (μ μ' : sM) : Prop := kq qXr μ μ' ∧ ∀ k i j, rR μ' k i j = rR μ k i j
theorem FXr_t {μ1 μ2 : sM} (h : FXr μ μ1) (h' : FXr μ1 μ2) : FXr μ μ2 := ⟨kq_t h.1 h'.1, fun k i j => (h'.2 k i j).trans (h.2 k i j)⟩
theorem FX_x {μ1 : sM} (h : FX μ μ1) : FXr μ μ1 := ⟨kq_m h.1 qXr_t, h.2⟩
theorem FM_x {ν1 : sM} (h : kq qMt ν ν1) : kq qMr ν ν1 := kq_m h qMr_t
/-- a RIVER half read, alike -/
def RV (μ ν : sM) : Prop := RelR 0 μ 4 ν 4 ∧ (rI μ 6 0 3 = rI ν 13 0 25 ∧ rR μ 6 0 0 = 1 ∧ rR μ 6 0 1 = 5) ∧ ∀ j, (46 ≤ j ∧ j < 52) ∨ (64 ≤ j ∧ j < 78) → rI ν 61 0 (1392 + j) = 0
theorem qR4_x : ∀ k i j, qR 4 4 k i j = true → qXt k i j = true := by
  intro k i j h
  unfold qR rk at h
  unfold qXt
  by_cases z : k = 7
  · exfalso
    simp only [Bool.or_eq_true, Bool.and_eq_true, beq_iff_eq, Nat.ble_eq] at h
    omega
  · simp [z]
theorem qR4_m : ∀ k i j, qR 4 4 k i j = true → qMt k i j = true := by
  intro k i j h
  unfold qR rk at h
  unfold qMt
  by_cases z : k = 13
  · exfalso
    simp only [Bool.or_eq_true, Bool.and_eq_true, beq_iff_eq, Nat.ble_eq] at h
    omega
  · simp [z]
theorem RV_t {μ' ν' : sM} (h : RV μ ν) (a : FX μ μ') (c : kq qMt ν ν') : RV μ' ν' := by
  obtain ⟨h1, ⟨h2, h3, h4⟩, h5⟩ := h
  refine ⟨RelR_c h1 (kq_m a.1 qR4_x) (kq_m c qR4_m) (Int.le_refl 0), ⟨?_, ?_, ?_⟩, fun j hj => ?_⟩
  · rw [(a.1 6 0 3 rfl).1, (c 13 0 25 rfl).1]; exact h2
  · rw [a.2]; exact h3
  · rw [a.2]; exact h4
  · rw [(c 61 0 _ rfl).1]; exact h5 j hj
theorem RV_n (h : RV μ ν) : ∃ c0 c1 c2 : Nat, c0 ≤ 6 ∧ c1 ≤ 6 ∧ c2 ≤ 6 ∧ rI μ 4 4 0 = nI c0 ∧ rI μ 3 4 0 = nI c1 ∧ rI μ 11 4 0 = nI c2 ∧ rI ν 61 0 1392 = nI c0 ∧ rI ν 61 0 1393 = nI c1 ∧ rI ν 61 0 1394 = nI c2 := by
  obtain ⟨⟨hR, ok, -⟩, -⟩ := h
  obtain ⟨c0, e0, l0, -⟩ := rg_nI (b := 6) ok.1.1
  obtain ⟨c1, e1, l1, -⟩ := rg_nI (b := 6) ok.1.2.1
  obtain ⟨c2, e2, l2, -⟩ := rg_nI (b := 6) ok.1.2.2
  exact ⟨c0, c1, c2, l0, l1, l2, hR.1.1.trans e0, hR.1.2.1.trans e1, hR.1.2.2.1.trans e2, e0, e1, e2⟩
/-- a new NAME; its sort so, k things of it so far -/
theorem newN (h : CS μ ν b n i m K V s) (hR : RV μ ν) (hK : K < 31) {so k : Nat} (hso : so < 3) (hk : rI ν 61 0 (1392 + so) = nI k) (k6 : k ≤ 6) :
    (k = 6 ∧ ∃ μ' ν', X6_fail 6 μ = some (0, μ') ∧ X12_readNew (nI so) ν = some (0, ν') ∧ FS μ' ν' ∧ FXr μ μ' ∧ kq qMr ν ν') ∨
    (k < 6 ∧ ∃ μ4, X6_advance μ = some μ4 ∧
      ((∃ μ' ν', X5_takeNewName μ4 = some (0, μ') ∧ X12_readNew (nI so) ν = some (0, ν') ∧ FS μ' ν' ∧ FXr μ μ' ∧ kq qMr ν ν') ∨
       (∃ μ' ν' m' K' V' s', X5_takeNewName μ4 = some (1, μ') ∧ X12_readNew (nI so) ν = some (nI k, ν') ∧ CS μ' ν' b n (i + 2) m' K' V' s' ∧ RV μ' ν' ∧ nmR (rL μ' 6 0 2) (rL ν' 64 0 (72 + 6 * so + k)) ∧ FXr μ μ' ∧ kq qMr ν ν' ∧ (∀ j, rI ν' 61 0 j = rI ν 61 0 j)))) := by
  have h11 := h.2.2.2.2.2.2.1
  unfold X12_readNew
  rw [show (1392 : Int32) = nI 1392 from rfl, nI_add, if_pos (inb_nI (by omega) (by omega)), ix_nI (by omega), hk]
  by_cases c6 : k = 6
  · refine Or.inl ⟨c6, ?_⟩
    obtain ⟨μ', ν', e1, e2, r1, r2, r3⟩ := fail2 h (f := 6) (by omega) (by omega)
    obtain ⟨f, s', f1, f7, z1, z2, q1, z3⟩ := r1
    refine ⟨μ', ν', e1, ?_, ⟨f, s', f1, f7, z1, z2, q1, z3⟩, FX_x r2, FM_x r3⟩
    rw [c6, if_pos (show nI 6 = 6 from rfl), show (6 : Int32) = nI 6 from rfl, e2, bV_s]
    unfold X12_readNew_J27
    rw [q1, if_neg (fs_pos f1 f7).1]
  · refine Or.inr ⟨by omega, ?_⟩
    have n6' : ¬ nI k = 6 := fun z => c6 ((nI_eq (b := 6) (by omega) (by omega)).mp z)
    obtain ⟨μ4, ν4, m4, K4, V4, s4, a1, a2, C4, f4, g4, -⟩ := adv2 h hK
    have R4 := RV_t hR f4 g4
    have h5 := C4.2.2.1.1
    have h6 := C4.2.2.1.2.1
    have h8 := C4.2.2.2.1
    have iN := is_Name C4.2.2.2.2.1
    have b4' := C4.2.2.2.2.2.2.1
    refine ⟨μ4, a1, ?_⟩
    rw [if_neg n6']
    have eM0 : X12_readNew_J27 (nI so) (nI k) ν = if K4 = 27 then X12_readNew_J51 (nI so) (nI k) ν4 else bV (X12_amiss ν4) (fun μ6 => X12_readNew_J51 (nI so) (nI k) μ6) := by
      unfold X12_readNew_J27
      rw [h11, if_pos (Int32.le_refl 0), a2, bV_s, iN, bI_s]
      by_cases c : K4 = 27
      · rw [if_pos c, if_neg n10, if_pos c]
      · rw [if_neg c, if_pos rfl, if_neg c]
    rw [eM0]
    by_cases c27 : K4 = 27
    · have hv : nmR V4 (rL ν4 13 0 19) := by
        rcases C4.2.2.2.2.1 with ⟨-, -, -, z⟩ | ⟨z, -⟩ | ⟨z, -⟩ | ⟨z, -⟩ | ⟨z, -⟩
        · rcases z with ⟨z, -⟩ | ⟨-, -, z⟩
          · omega
          · exact z
        · omega
        · omega
        · omega
        · omega
      obtain ⟨c0, c1, c2, l0, l1, l2, x0, x1, x2, y0, y1, y2⟩ := RV_n R4
      obtain ⟨x, t1, t2, hx⟩ := taken2 (V := V4) R4.1.2.2.1 x0 x1 x2 y0 y1 y2 l0 l1 l2 hv
      have eX : X5_takeNewName μ4 = if x = 0 then bV (X6_advance (wL μ4 6 0 2 V4)) (fun μ9 => some (1, μ9)) else bI (X6_fail 3 μ4) (fun x11 μ12 => if x11 = 0 ∨ x11 = 1 then some (x11, μ12) else none) := by
        unfold X5_takeNewName
        rw [R4.2.1.2.1, if_pos rfl, h5, if_pos (show nI K4 = 27 by rw [c27]; rfl), R4.2.1.2.2, if_pos rfl, if_pos rfl, h6, t1, bI_s, R4.2.1.2.1, if_pos rfl, if_pos rfl, if_pos rfl, h6]
      have eM : X12_readNew_J51 (nI so) (nI k) ν4 = if x = 0 then bV (X12_advance (wL ν4 64 0 (72 + 6 * so + k) (rL ν4 13 0 19))) (fun μ2 => some (nI k, μ2)) else bV (X12_fail 3 (rI ν4 13 0 15) ν4) (fun μ4 => X12_readNew_J74 (nI so) (nI k) μ4) := by
        have eJ : X12_readNew_J74 (nI so) (nI k) ν4 = bV (X12_advance (wL ν4 64 0 (72 + 6 * so + k) (rL ν4 13 0 19))) (fun μ2 => some (nI k, μ2)) := by
          unfold X12_readNew_J74
          rw [b4', if_pos (Int32.le_refl 0), show (72 : Int32) + 6 * nI so + nI k = nI (72 + 6 * so + k) by rw [show (72 : Int32) = nI 72 from rfl, show (6 : Int32) = nI 6 from rfl, pk_mul, nI_add, nI_add], if_pos (inb_nI (by omega) (by omega)), ix_nI (by omega)]
        unfold X12_readNew_J51
        rw [b4', if_pos rfl, t2, bI_s, eJ]
      rw [if_pos c27, eX, eM]
      rcases hx with rfl | rfl
      · rw [if_pos rfl, if_pos rfl]
        have C5 : CS (wL μ4 6 0 2 V4) (wL ν4 64 0 (72 + 6 * so + k) (rL ν4 13 0 19)) b n (i + 1) m4 K4 V4 s4 := CS_c C4 (kq_wL rfl kq_r) (kq_wL rfl kq_r)
        obtain ⟨μ5, ν5, m5, K5, V5, s5, d1, d2, C6, f6, g6, -⟩ := adv2 C5 (by omega)
        have hk4 : rI ν4 61 0 (1392 + so) = nI k := ((g4 61 0 _ rfl).1).trans hk
        have R5 : RV (wL μ4 6 0 2 V4) (wL ν4 64 0 (72 + 6 * so + k) (rL ν4 13 0 19)) := by
          obtain ⟨⟨q1, q2, q3, q4⟩, q5, q6⟩ := R4
          obtain ⟨w0, w1, w2⟩ := RelN4 q3 y0 y1 y2 l0 l1 l2
          have hso' : (so = 0 ∧ k = c0) ∨ (so = 1 ∧ k = c1) ∨ (so = 2 ∧ k = c2) := by
            have hc : so = 0 ∨ so = 1 ∨ so = 2 := by omega
            rcases hc with rfl | rfl | rfl
            · exact Or.inl ⟨rfl, (nI_eq (by omega) (by omega)).mp (hk4.symm.trans y0)⟩
            · exact Or.inr (Or.inl ⟨rfl, (nI_eq (by omega) (by omega)).mp (hk4.symm.trans y1)⟩)
            · exact Or.inr (Or.inr ⟨rfl, (nI_eq (by omega) (by omega)).mp (hk4.symm.trans y2)⟩)
          have v0 := nI_toInt (n := c0) (by omega)
          have v1 := nI_toInt (n := c1) (by omega)
          have v2 := nI_toInt (n := c2) (by omega)
          refine ⟨⟨Riv_c q1 (fun k j hk => ⟨rfl, rL_k (fun q => by rw [q] at hk; cases hk)⟩) (fun _ _ => rfl) q2.1.1.2 q2.1.2.1.2 q2.1.2.2.2, q2, ⟨fun j hj => ?_, fun j hj => ?_, fun j hj => ?_⟩, q4⟩, q5, q6⟩
          · have hj' : j < c0 := by
              have : (j : Int) < (rI ν4 61 0 1392).toInt := hj
              rw [y0] at this
              omega
            rw [rL_k (by decide), rL_j (by omega)]
            exact w0 j hj'
          · have hj' : j < c1 := by
              have : (j : Int) < (rI ν4 61 0 1393).toInt := hj
              rw [y1] at this
              omega
            rw [rL_k (by decide), rL_j (by omega)]
            exact w1 j hj'
          · have hj' : j < c2 := by
              have : (j : Int) < (rI ν4 61 0 1394).toInt := hj
              rw [y2] at this
              omega
            rw [rL_k (by decide), rL_j (by omega)]
            exact w2 j hj'
        refine Or.inr ⟨μ5, ν5, m5, K5, V5, s5, ?_, ?_, C6, RV_t R5 f6 g6, ?_, FXr_t (FX_x f4) (FXr_t ⟨kq_wL rfl kq_r, fun _ _ _ => rfl⟩ (FX_x f6)), kq_t (FM_x g4) (kq_t (kq_wL (by unfold qMr; simp [Nat.ble_eq_true_of_le (show 72 ≤ 72 + 6 * so + k by omega)]) kq_r) (FM_x g6)), fun j => ?_⟩
        · rw [d1, bV_s]
        · rw [d2, bV_s]
        · rw [(f6.1 6 0 2 rfl).2, rL_s, (g6 64 0 _ rfl).2, rL_s]
          exact hv
        · rw [(g6 61 0 j rfl).1, rI_wL, (g4 61 0 j rfl).1]
      · obtain ⟨μ', ν', e1, e2, r1, r2, r3⟩ := fail2 C4 (f := 3) (by omega) (by omega)
        obtain ⟨f, s', f1, f7, z1, z2, q1, z3⟩ := r1
        refine Or.inl ⟨μ', ν', ?_, ?_, ⟨f, s', f1, f7, z1, z2, q1, z3⟩, FXr_t (FX_x f4) (FX_x r2), kq_t (FM_x g4) (FM_x r3)⟩
        · rw [if_neg n10, show (3 : Int32) = nI 3 from rfl, e1, bI_s, if_pos (Or.inl rfl)]
        · rw [if_neg n10, show (3 : Int32) = nI 3 from rfl, e2, bV_s]
          unfold X12_readNew_J74
          rw [q1, if_neg (fs_pos f1 f7).1]
    · obtain ⟨μ', ν', e1, e2, r1, r2, r3⟩ := amiss2 C4
      obtain ⟨f, s', f1, f7, z1, z2, q1, z3⟩ := r1
      refine Or.inl ⟨μ', ν', ?_, ?_, ⟨f, s', f1, f7, z1, z2, q1, z3⟩, FXr_t (FX_x f4) (FX_x r2), kq_t (FM_x g4) (FM_x r3)⟩
      · unfold X5_takeNewName
        rw [R4.2.1.2.1, if_pos rfl, h5, if_neg (show ¬ nI K4 = 27 from fun z => c27 ((nI_eq (b := 27) (by omega) (by omega)).mp z)), if_pos rfl, e1, bI_s, if_pos (Or.inl rfl)]
      · rw [if_neg c27, e2, bV_s]
        unfold X12_readNew_J51 X12_readNew_J74
        rw [q1, if_neg (fs_pos f1 f7).2.1, if_neg (fs_pos f1 f7).1]
end C98n
