/-! 78: HOURS of both, side by side -/
/-- what the reference's HOUR leaves alone -/
def mfr (ν ν' : sM) : Prop := (∀ k i j, (k ≠ 61 ∨ 76 ≤ j ∨ i ≠ 0) → k ≠ 65 → k ≠ 66 → rI ν' k i j = rI ν k i j) ∧ (∀ k i j, rL ν' k i j = rL ν k i j) ∧ ∀ k i j, rR ν' k i j = rR ν k i j
theorem mfr_r (ν : sM) : mfr ν ν := ⟨fun _ _ _ _ _ _ => rfl, fun _ _ _ => rfl, fun _ _ _ => rfl⟩
theorem mfr_t {a b c : sM} (h : mfr a b) (h' : mfr b c) : mfr a c := ⟨fun k i j x y z => (h'.1 k i j x y z).trans (h.1 k i j x y z), fun k i j => (h'.2.1 k i j).trans (h.2.1 k i j), fun k i j => (h'.2.2 k i j).trans (h.2.2 k i j)⟩
/-- the class's river r beside the reference's row, in ranges -/
def Rv (B : Int) (μ : sM) (r : Nat) (ν : sM) : Prop := Riv μ r (rI ν 61 0) ∧ OkR B (rI ν 61 0)
theorem hour2 {B : Int} {μ ν : sM} {r : Nat} (h : Rv B μ r ν) (hB : 0 ≤ B ∧ B ≤ 1000000000) (h6 : (rI ν 61 0 6).toInt ≤ 10599) :
    ∃ g μ' ν', X4_passHour r μ = some (g, μ') ∧ X12_goesHour ν = some (g, ν') ∧ Rv B μ' r ν' ∧ (rI ν' 61 0 6).toInt = (rI ν 61 0 6).toInt + 1 ∧ (∀ j : Nat, (j : Int) < (rI ν 61 0 0).toInt → rI μ' 33 r j = rI ν' 66 0 j) ∧ mfr ν ν' ∧ (0 ≤ g.toInt ∧ g.toInt ≤ (rI ν 61 0 1).toInt) ∧ (∀ j, j < 6 ∨ j = 7 ∨ (34 ≤ j ∧ j < 46) ∨ 52 ≤ j → rI ν' 61 0 j = rI ν 61 0 j) := by
  obtain ⟨hR, ok⟩ := h
  obtain ⟨n, hn, n6, hn'⟩ := rg_nI (b := 6) ok.1.1
  obtain ⟨m, hm, m6, hm'⟩ := rg_nI (b := 6) ok.1.2.1
  obtain ⟨P, hP⟩ : ∃ P : Nat → Int32, P = fun j => if j < n then paF (rI ν 61 0) j else rI ν 65 0 j := ⟨_, rfl⟩
  have hy : Hyp B (rI ν 61 0) P n m := ⟨ok, hn, hm, n6, m6, h6, hB, fun j hj => by rw [hP]; exact if_pos hj⟩
  obtain ⟨μ', e1, R1, s1⟩ := hourX hy hR
  have e2 := hourM_e n6 m6 hn hm (fun j hj => by
    have z := ok.2.2.2.2.1 j (by omega)
    exact inb_of z.1 (by omega)) P hP
  have ec : rI (nf ν P (fun j => if j < n then flF (flowF (rI ν 61 0) P n) j else rI ν 66 0 j) (hrF (rI ν 61 0) P n m)) 61 0 = hrF (rI ν 61 0) P n m := funext fun j => nf_c
  refine ⟨_, μ', _, e1, e2, ⟨?_, ?_⟩, ?_, fun j hj => ?_, ⟨fun k i j a b c => ?_, fun _ _ _ => rfl, fun _ _ _ => rfl⟩, ?_, fun j hj => ?_⟩
  · rw [ec]
    exact R1
  · rw [ec]
    exact OkR_hr hy
  · have b6 := ok.2.1.2.2.2.1
    unfold rg at b6
    rw [ec, hr_6 hy, tA (by rw [t1]; omega) (by rw [t1]; omega), t1]
  · rw [nf_q, if_pos (by omega), s1 j (by omega)]
  · by_cases z : k = 61
    · subst z
      by_cases zi : i = 0
      · subst zi
        rw [nf_c]
        have hj : 76 ≤ j := by omega
        exact hr_o hy (by omega) (by omega) (by omega)
      · unfold nf
        rw [rI_sC, if_neg (fun q => zi q.2), sC_k (by decide), sC_k (by decide)]
    · unfold nf
      rw [sC_k z, sC_k c, sC_k b]
  · have sb := sgm_b (g := gd1 (rnF (flowF (rI ν 61 0) P n) n) P) (M := 1) (by omega) m 0 m6 (by omega) (fun j _ _ => by
      unfold gd1
      by_cases z : grF (rnF (flowF (rI ν 61 0) P n) n) P j
      · rw [if_pos z, t1]; omega
      · rw [if_neg z, t0]; omega)
    omega
  · rw [ec]
    exact hr_o hy (by omega) (by omega) (by omega)
theorem Rv_mono {B B' : Int} {μ ν : sM} {r : Nat} (h : Rv B μ r ν) (hb : B ≤ B') : Rv B' μ r ν := by
  refine ⟨h.1, h.2.1, h.2.2.1, fun j hj => ?_, h.2.2.2.2⟩
  have z := h.2.2.2.1 j hj
  unfold rg at z ⊢
  omega
/-- k HOURS of each -/
def HX (r : Nat) : Nat → sM → Option (Int32 × sM)
  | 0, μ => some (0, μ)
  | k + 1, μ => bI (X4_passHour r μ) fun x μ1 => bI (HX r k μ1) fun y μ2 => some (x + y, μ2)
def HM : Nat → sM → Option (Int32 × sM)
  | 0, ν => some (0, ν)
  | k + 1, ν => bI (X12_goesHour ν) fun x ν1 => bI (HM k ν1) fun y ν2 => some (x + y, ν2)
theorem bI_inv {β : Type} {f : Option (Int32 × sM)} {k : Int32 → sM → Option β} {z : β} (h : bI f k = some z) : ∃ x ρ, f = some (x, ρ) ∧ k x ρ = some z := by
  cases f with
  | none => cases h
  | some q => exact ⟨q.1, q.2, rfl, h⟩
theorem bV_inv {β : Type} {f : Option sM} {k : sM → Option β} {z : β} (h : bV f k = some z) : ∃ ρ, f = some ρ ∧ k ρ = some z := by
  cases f with
  | none => cases h
  | some q => exact ⟨q, rfl, h⟩
theorem hours2 {B : Int} {r : Nat} (hB : 0 ≤ B ∧ B ≤ 1000000000) : ∀ (k : Nat) (μ ν : sM), Rv B μ r ν → (rI ν 61 0 6).toInt + k ≤ 10600 →
    ∃ g μ' ν', HX r k μ = some (g, μ') ∧ HM k ν = some (g, ν') ∧ Rv B μ' r ν' ∧ (rI ν' 61 0 6).toInt = (rI ν 61 0 6).toInt + k ∧ mfr ν ν' ∧ (k ≤ 1000 → 0 ≤ g.toInt ∧ g.toInt ≤ k * (rI ν 61 0 1).toInt) ∧ (∀ j, j < 6 ∨ j = 7 ∨ (34 ≤ j ∧ j < 46) ∨ 52 ≤ j → rI ν' 61 0 j = rI ν 61 0 j)
  | 0, μ, ν, hR, _ => ⟨0, μ, ν, rfl, rfl, hR, by omega, mfr_r ν, fun _ => by rw [t0]; omega, fun _ _ => rfl⟩
  | k + 1, μ, ν, hR, h6 => by
    obtain ⟨g, μ1, ν1, e1, e2, R1, s6, -, fr, gb, k1⟩ := hour2 hR hB (by omega)
    obtain ⟨g', μ', ν', e3, e4, R2, u6, fr2, gb2, k2⟩ := hours2 hB k μ1 ν1 R1 (by omega)
    refine ⟨g + g', μ', ν', ?_, ?_, R2, by omega, mfr_t fr fr2, fun hk => ?_, fun j hj => (k2 j hj).trans (k1 j hj)⟩
    · unfold HX
      rw [e1, bI_s, e3, bI_s]
    · unfold HM
      rw [e2, bI_s, e4, bI_s]
    · have b := gb2 (by omega)
      rw [k1 1 (by omega)] at b
      have c1 := hR.2.1.2.1
      unfold rg at c1
      have e : ((k + 1 : Nat) : Int) * (rI ν 61 0 1).toInt = k * (rI ν 61 0 1).toInt + (rI ν 61 0 1).toInt := by
        rw [Int.natCast_add, Int.add_mul]
        simp
      have q : (k : Int) * (rI ν 61 0 1).toInt ≤ 1000 * 6 := Int.mul_le_mul (by omega) (by omega) (by omega) (by omega)
      rw [tA (by omega) (by omega), e]
      omega
theorem passHours_l {r : Nat} {n : Nat} (hn : n ≤ 1000) : ∀ (k i fu : Nat) (v : Int32) (μ : sM) {g : Int32} {μ' : sM}, i + k = n → k < fu → HX r k μ = some (g, μ') → X4_passHours_L4 fu r (nI n) v (nI i) μ = some (v + g, μ')
  | 0, i, fu + 1, v, μ, g, μ', h, _, e => by
    cases e
    unfold X4_passHours_L4
    rw [if_pos (nI_le (by omega) (by omega)), Int32.add_zero]
  | k + 1, i, fu + 1, v, μ, g, μ', h, hf, e => by
    unfold HX at e
    obtain ⟨x, μ1, e1, e⟩ := bI_inv e
    obtain ⟨y, μ2, e2, e⟩ := bI_inv e
    cases e
    unfold X4_passHours_L4
    rw [if_neg (nI_ge (by omega) (by omega)), e1, bI_s, nI_1, passHours_l hn k (i + 1) fu _ _ (by omega) (by omega) e2, Int32.add_assoc]
theorem passHours_e {r n : Nat} (hn : n ≤ 1000) {μ μ' : sM} {g : Int32} (e : HX r n μ = some (g, μ')) : X4_passHours r (nI n) μ = some (g, μ') := by
  unfold X4_passHours
  have h := passHours_l hn n 0 fuN 0 μ (by omega) (fuN_6 (by omega)) e
  rw [nI_0, Int32.zero_add] at h
  exact h
theorem hourM_l54 {n : Nat} (hn : n ≤ 1000) : ∀ (k i fu : Nat) (v : Int32) (ν : sM) {g : Int32} {ν' : sM}, i + k = n → k < fu → HM k ν = some (g, ν') → X12_hour_L54 fu (nI n) v (nI i) ν = some (v + g, ν')
  | 0, i, fu + 1, v, μ, g, μ', h, _, e => by
    cases e
    unfold X12_hour_L54
    rw [if_pos (nI_le (by omega) (by omega)), Int32.add_zero]
  | k + 1, i, fu + 1, v, μ, g, μ', h, hf, e => by
    unfold HM at e
    obtain ⟨x, μ1, e1, e⟩ := bI_inv e
    obtain ⟨y, μ2, e2, e⟩ := bI_inv e
    cases e
    unfold X12_hour_L54
    rw [if_neg (nI_ge (by omega) (by omega)), e1, bI_s, nI_1, hourM_l54 hn k (i + 1) fu _ _ (by omega) (by omega) e2, Int32.add_assoc]
theorem cellIn_l {n : Nat} (hn : n ≤ 1000) (cell : Int32) : ∀ (k i fu : Nat) (ν : sM) {g : Int32} {ν' : sM}, i + k = n → k < fu → HM k ν = some (g, ν') → X12_cellIn_L6 fu cell (nI n) (nI i) ν = if inb cell 1740 = true then bV (X12_gives ν') fun μ2 => some (rI ν' 61 0 (ix cell), μ2) else none
  | 0, i, fu + 1, μ, g, μ', h, _, e => by
    cases e
    unfold X12_cellIn_L6
    rw [if_pos (nI_le (by omega) (by omega))]
  | k + 1, i, fu + 1, μ, g, μ', h, hf, e => by
    unfold HM at e
    obtain ⟨x, μ1, e1, e⟩ := bI_inv e
    obtain ⟨y, μ2, e2, e⟩ := bI_inv e
    cases e
    rw [X12_cellIn_L6]
    rw [if_neg (nI_ge (by omega) (by omega)), e1, bI_s, nI_1, cellIn_l hn cell k (i + 1) fu _ (by omega) (by omega) e2]
