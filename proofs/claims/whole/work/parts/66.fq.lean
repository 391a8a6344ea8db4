/-! ClockRiver$Reaches.allHeld -/
theorem X3_allHeld_L4_fq : ∀ (n : Nat) (v0 : Nat) (v1 : Int32) (v2 : Int32) (μ : sM), kI (nQ v0) μ (X3_allHeld_L4 n v0 v1 v2 μ) := by
  intro n
  induction n with
  | zero =>
    intros
    exact kI_none
  | succ n ih =>
    intro v0 v1 v2 μ
    unfold X3_allHeld_L4
    refine kI_ite ?_ ?_
    · exact kI_some keep_r
    · refine kI_ck ?_
      exact kI_to keep_r (ih v0 (v1 + (rI μ 31 v0 (ix v2))) (v2 + 1) μ)
theorem X3_allHeld_fq (a0 : Nat) (μ : sM) : kI (nQ a0) μ (X3_allHeld a0 μ) := by
  unfold X3_allHeld
  exact kI_to keep_r (X3_allHeld_L4_fq fuN a0 0 0 μ)
/-! ClockRiver$Reaches.letPass -/
theorem X3_letPass_L2_fq : ∀ (n : Nat) (v0 : Nat) (v1 : Int32) (μ : sM), kV (nQ v0) μ (X3_letPass_L2 n v0 v1 μ) := by
  intro n
  induction n with
  | zero =>
    intros
    exact kV_none
  | succ n ih =>
    intro v0 v1 μ
    unfold X3_letPass_L2
    refine kV_ite ?_ ?_
    · exact kV_some keep_r
    · refine kV_ck ?_
      refine kV_ck ?_
      refine kV_ck ?_
      exact kV_to (keep_wI (nQ_s rfl) keep_r) (ih v0 (v1 + 1) (wI μ 32 v0 (ix v1) (imn (rI μ 31 v0 (ix v1)) (rI μ 30 v0 (ix v1)))))
theorem X3_letPass_fq (a0 : Nat) (μ : sM) : kV (nQ a0) μ (X3_letPass a0 μ) := by
  unfold X3_letPass
  exact kV_to keep_r (X3_letPass_L2_fq fuN a0 0 μ)
/-! ClockRiver$Reaches.addEach -/
theorem X3_addEach_L2_fq : ∀ (n : Nat) (v0 : Nat) (v1 : Int32) (v2 : Int32) (μ : sM), kV (nQ v0) μ (X3_addEach_L2 n v0 v1 v2 μ) := by
  intro n
  induction n with
  | zero =>
    intros
    exact kV_none
  | succ n ih =>
    intro v0 v1 v2 μ
    unfold X3_addEach_L2
    refine kV_ite ?_ ?_
    · exact kV_some keep_r
    · refine kV_ck ?_
      refine kV_ck ?_
      exact kV_to (keep_wI (nQ_s rfl) keep_r) (ih v0 v1 (v2 + 1) (wI μ 31 v0 (ix v2) ((rI μ 31 v0 (ix v2)) + v1)))
theorem X3_addEach_fq (a0 : Nat) (a1 : Int32) (μ : sM) : kV (nQ a0) μ (X3_addEach a0 a1 μ) := by
  unfold X3_addEach
  exact kV_to keep_r (X3_addEach_L2_fq fuN a0 a1 0 μ)
/-! ClockRiver$Reaches.spill -/
theorem X3_spill_L4_fq : ∀ (n : Nat) (v0 : Nat) (v1 : Int32) (v2 : Int32) (μ : sM), kI (nQ v0) μ (X3_spill_L4 n v0 v1 v2 μ) := by
  intro n
  induction n with
  | zero =>
    intros
    exact kI_none
  | succ n ih =>
    intro v0 v1 v2 μ
    unfold X3_spill_L4
    refine kI_ite ?_ ?_
    · exact kI_some keep_r
    · refine kI_ck ?_
      refine kI_ck ?_
      refine kI_ck ?_
      refine kI_ck ?_
      refine kI_ck ?_
      refine kI_ck ?_
      refine kI_ck ?_
      exact kI_to (keep_wI (nQ_s rfl) (keep_wI (nQ_s rfl) keep_r)) (ih v0 (v1 + (rI (wI μ 33 v0 (ix v2) (imx 0 ((rI μ 31 v0 (ix v2)) - (rI μ 29 v0 (ix v2))))) 33 v0 (ix v2))) (v2 + 1) (wI (wI μ 33 v0 (ix v2) (imx 0 ((rI μ 31 v0 (ix v2)) - (rI μ 29 v0 (ix v2))))) 31 v0 (ix v2) ((rI μ 31 v0 (ix v2)) - (rI (wI μ 33 v0 (ix v2) (imx 0 ((rI μ 31 v0 (ix v2)) - (rI μ 29 v0 (ix v2))))) 33 v0 (ix v2)))))
theorem X3_spill_fq (a0 : Nat) (μ : sM) : kI (nQ a0) μ (X3_spill a0 μ) := by
  unfold X3_spill
  exact kI_to keep_r (X3_spill_L4_fq fuN a0 0 0 μ)
/-! ClockRiver$Mills.allGround -/
theorem X2_allGround_L4_fq : ∀ (n : Nat) (v0 : Nat) (v1 : Int32) (v2 : Int32) (μ : sM), kI (nQ v0) μ (X2_allGround_L4 n v0 v1 v2 μ) := by
  intro n
  induction n with
  | zero =>
    intros
    exact kI_none
  | succ n ih =>
    intro v0 v1 v2 μ
    unfold X2_allGround_L4
    refine kI_ite ?_ ?_
    · exact kI_some keep_r
    · refine kI_ck ?_
      exact kI_to keep_r (ih v0 (v1 + (rI μ 27 v0 (ix v2))) (v2 + 1) μ)
theorem X2_allGround_fq (a0 : Nat) (μ : sM) : kI (nQ a0) μ (X2_allGround a0 μ) := by
  unfold X2_allGround
  exact kI_to keep_r (X2_allGround_L4_fq fuN a0 0 0 μ)
/-! ClockRiver$Mills.countAt -/
theorem X2_countAt_J25_fq {k4 : Nat → Int32 → Int32 → Int32 → sM → Option (Int32 × sM)} (hk4 : ∀ (v0 : Nat) (v1 : Int32) (v2 : Int32) (v3 : Int32) (μ : sM), kI (nQ v0) μ (k4 v0 v1 v2 v3 μ)) (v0 : Nat) (v1 : Int32) (v2 : Int32) (v3 : Int32) (μ : sM) : kI (nQ v0) μ (X2_countAt_J25 k4 v0 v1 v2 v3 μ) := by
  unfold X2_countAt_J25
  exact kI_to keep_r (hk4 v0 v1 v2 (v3 + 1) μ)
theorem X2_countAt_L4_fq : ∀ (n : Nat) (v0 : Nat) (v1 : Int32) (v2 : Int32) (v3 : Int32) (μ : sM), kI (nQ v0) μ (X2_countAt_L4 n v0 v1 v2 v3 μ) := by
  intro n
  induction n with
  | zero =>
    intros
    exact kI_none
  | succ n ih =>
    intro v0 v1 v2 v3 μ
    unfold X2_countAt_L4
    refine kI_ite ?_ ?_
    · exact kI_some keep_r
    · refine kI_ck ?_
      refine kI_ite ?_ ?_
      · exact kI_to keep_r (X2_countAt_J25_fq ih v0 v1 (v2 + 1) v3 μ)
      · exact kI_to keep_r (X2_countAt_J25_fq ih v0 v1 v2 v3 μ)
theorem X2_countAt_fq (a0 : Nat) (a1 : Int32) (μ : sM) : kI (nQ a0) μ (X2_countAt a0 a1 μ) := by
  unfold X2_countAt
  exact kI_to keep_r (X2_countAt_L4_fq fuN a0 a1 0 0 μ)
/-! ClockRiver$Mills.grind -/
theorem X2_grind_32_J42_fq {k4 : Nat → Nat → Int32 → Int32 → sM → Option (Int32 × sM)} (hk4 : ∀ (v0 : Nat) (v1 : Nat) (v2 : Int32) (v3 : Int32) (μ : sM), kI (nQ v0) μ (k4 v0 v1 v2 v3 μ)) (v0 : Nat) (v1 : Nat) (v2 : Int32) (v3 : Int32) (μ : sM) : kI (nQ v0) μ (X2_grind_32_J42 k4 v0 v1 v2 v3 μ) := by
  unfold X2_grind_32_J42
  exact kI_to keep_r (hk4 v0 v1 v2 (v3 + 1) μ)
theorem X2_grind_32_L4_fq : ∀ (n : Nat) (v0 : Nat) (v1 : Nat) (v2 : Int32) (v3 : Int32) (μ : sM), kI (nQ v0) μ (X2_grind_32_L4 n v0 v1 v2 v3 μ) := by
  intro n
  induction n with
  | zero =>
    intros
    exact kI_none
  | succ n ih =>
    intro v0 v1 v2 v3 μ
    unfold X2_grind_32_L4
    refine kI_ite ?_ ?_
    · exact kI_some keep_r
    · refine kI_ck ?_
      refine kI_ck ?_
      refine kI_ck ?_
      refine kI_ite ?_ ?_
      · exact kI_to keep_r (X2_grind_32_J42_fq ih v0 v1 v2 v3 μ)
      · refine kI_ck ?_
        refine kI_ck ?_
        exact kI_to (keep_wI (nQ_s rfl) keep_r) (X2_grind_32_J42_fq ih v0 v1 (v2 + 1) v3 (wI μ 27 v0 (ix v3) ((rI μ 27 v0 (ix v3)) + 1)))
theorem X2_grind_32_fq (a0 : Nat) (a1 : Nat) (μ : sM) : kI (nQ a0) μ (X2_grind_32 a0 a1 μ) := by
  unfold X2_grind_32
  exact kI_to keep_r (X2_grind_32_L4_fq fuN a0 a1 0 0 μ)
/-! ClockRiver$Winders.allHad -/
theorem X10_allHad_L4_fq : ∀ (n : Nat) (v0 : Nat) (v1 : Int32) (v2 : Int32) (μ : sM), kI (nQ v0) μ (X10_allHad_L4 n v0 v1 v2 μ) := by
  intro n
  induction n with
  | zero =>
    intros
    exact kI_none
  | succ n ih =>
    intro v0 v1 v2 μ
    unfold X10_allHad_L4
    refine kI_ite ?_ ?_
    · exact kI_some keep_r
    · refine kI_ck ?_
      exact kI_to keep_r (ih v0 (v1 + (rI μ 54 v0 (ix v2))) (v2 + 1) μ)
theorem X10_allHad_fq (a0 : Nat) (μ : sM) : kI (nQ a0) μ (X10_allHad a0 μ) := by
  unfold X10_allHad
  exact kI_to keep_r (X10_allHad_L4_fq fuN a0 0 0 μ)
/-! ClockRiver$Winders.pay -/
theorem X10_pay_fq (a0 : Nat) (a1 : Int32) (μ : sM) : kV (nQ a0) μ (X10_pay a0 a1 μ) := by
  unfold X10_pay
  refine kV_ck ?_
  refine kV_ck ?_
  refine kV_ck ?_
  refine kV_ck ?_
  refine kV_ck ?_
  exact kV_some (keep_wI (nQ_s rfl) (keep_wI (nQ_s rfl) keep_r))
/-! ClockRiver$Winders.sets -/
theorem X10_sets_fq (a0 : Nat) (μ : sM) : kI (nQ a0) μ (X10_sets a0 μ) := by
  unfold X10_sets
  exact kI_some keep_r
/-! ClockRiver$Winders.canWind -/
theorem X10_canWind_J37_fq {k6 : Nat → Int32 → Int32 → Int32 → Int32 → sM → Option (Int32 × sM)} (hk6 : ∀ (v0 : Nat) (v1 : Int32) (v3 : Int32) (v4 : Int32) (v5 : Int32) (μ : sM), kI (nQ v0) μ (k6 v0 v1 v3 v4 v5 μ)) (v0 : Nat) (v1 : Int32) (v3 : Int32) (v4 : Int32) (v5 : Int32) (μ : sM) : kI (nQ v0) μ (X10_canWind_J37 k6 v0 v1 v3 v4 v5 μ) := by
  unfold X10_canWind_J37
  exact kI_to keep_r (hk6 v0 v1 v3 v4 (v5 + 1) μ)
theorem X10_canWind_L6_fq : ∀ (n : Nat) (v0 : Nat) (v1 : Int32) (v3 : Int32) (v4 : Int32) (v5 : Int32) (μ : sM), kI (nQ v0) μ (X10_canWind_L6 n v0 v1 v3 v4 v5 μ) := by
  intro n
  induction n with
  | zero =>
    intros
    exact kI_none
  | succ n ih =>
    intro v0 v1 v3 v4 v5 μ
    unfold X10_canWind_L6
    refine kI_ite ?_ ?_
    · refine kI_ite ?_ ?_
      · exact kI_some keep_r
      · exact kI_some keep_r
    · refine kI_ite ?_ ?_
      · refine kI_ck ?_
        exact kI_to keep_r (X10_canWind_J37_fq ih v0 v1 v3 (v4 + (rI μ 51 v0 (ix v5))) v5 μ)
      · exact kI_to keep_r (X10_canWind_J37_fq ih v0 v1 v3 v4 v5 μ)
theorem X10_canWind_fq (a0 : Nat) (a1 : Int32) (a2 : Int32) (a3 : Int32) (μ : sM) : kI (nQ a0) μ (X10_canWind a0 a1 a2 a3 μ) := by
  unfold X10_canWind
  exact kI_to keep_r (X10_canWind_L6_fq fuN a0 a1 a3 a2 0 μ)
/-! ClockRiver$Winders.wagesOf -/
theorem X10_wagesOf_J30_fq {k4 : Nat → Int32 → Int32 → Int32 → sM → Option (Int32 × sM)} (hk4 : ∀ (v0 : Nat) (v1 : Int32) (v2 : Int32) (v3 : Int32) (μ : sM), kI (nQ v0) μ (k4 v0 v1 v2 v3 μ)) (v0 : Nat) (v1 : Int32) (v2 : Int32) (v3 : Int32) (μ : sM) : kI (nQ v0) μ (X10_wagesOf_J30 k4 v0 v1 v2 v3 μ) := by
  unfold X10_wagesOf_J30
  exact kI_to keep_r (hk4 v0 v1 v2 (v3 + 1) μ)
theorem X10_wagesOf_L4_fq : ∀ (n : Nat) (v0 : Nat) (v1 : Int32) (v2 : Int32) (v3 : Int32) (μ : sM), kI (nQ v0) μ (X10_wagesOf_L4 n v0 v1 v2 v3 μ) := by
  intro n
  induction n with
  | zero =>
    intros
    exact kI_none
  | succ n ih =>
    intro v0 v1 v2 v3 μ
    unfold X10_wagesOf_L4
    refine kI_ite ?_ ?_
    · exact kI_some keep_r
    · refine kI_ite ?_ ?_
      · refine kI_ck ?_
        exact kI_to keep_r (X10_wagesOf_J30_fq ih v0 v1 (v2 + (rI μ 52 v0 (ix v3))) v3 μ)
      · exact kI_to keep_r (X10_wagesOf_J30_fq ih v0 v1 v2 v3 μ)
theorem X10_wagesOf_fq (a0 : Nat) (a1 : Int32) (μ : sM) : kI (nQ a0) μ (X10_wagesOf a0 a1 μ) := by
  unfold X10_wagesOf
  exact kI_to keep_r (X10_wagesOf_L4_fq fuN a0 a1 0 0 μ)
/-! ClockRiver$River.figure -/
theorem X4_figure_fq (a0 : Nat) (a1 : Int32) (μ : sM) : kI (nQ a0) μ (X4_figure a0 a1 μ) := by
  unfold X4_figure
  refine kI_ite ?_ ?_
  · exact kI_some keep_r
  refine kI_ite ?_ ?_
  · exact kI_some keep_r
  refine kI_ite ?_ ?_
  · exact kI_some keep_r
  refine kI_ite ?_ ?_
  · exact kI_some keep_r
  refine kI_ite ?_ ?_
  · exact kI_some keep_r
  refine kI_ite ?_ ?_
  · exact kI_some keep_r
  refine kI_ite ?_ ?_
  · exact kI_some keep_r
  refine kI_ite ?_ ?_
  · exact kI_some keep_r
  refine kI_ite ?_ ?_
  · refine kI_ite ?_ ?_
    · exact kI_some keep_r
    · exact kI_some keep_r
  refine kI_ite ?_ ?_
  · exact kI_some keep_r
  refine kI_ite ?_ ?_
  · refine kI_bI keep_r (X3_allHeld_fq a0 μ) (fun x1 μ2 h_μ2 => ?_)
    exact kI_some h_μ2
  refine kI_ite ?_ ?_
  · refine kI_bI keep_r (X10_allHad_fq a0 μ) (fun x3 μ4 h_μ4 => ?_)
    exact kI_some h_μ4
  refine kI_bI keep_r (X2_allGround_fq a0 μ) (fun x5 μ6 h_μ6 => ?_)
  exact kI_some h_μ6
/-! ClockRiver$River.hasReach -/
theorem X4_hasReach_fq (a0 : Nat) (a1 : Int32) (μ : sM) : kI (nQ a0) μ (X4_hasReach a0 a1 μ) := by
  unfold X4_hasReach
  refine kI_ite ?_ ?_
  · exact kI_some keep_r
  · refine kI_ite ?_ ?_
    · exact kI_some keep_r
    · exact kI_some keep_r
/-! ClockRiver$River.hasMill -/
theorem X4_hasMill_fq (a0 : Nat) (a1 : Int32) (μ : sM) : kI (nQ a0) μ (X4_hasMill a0 a1 μ) := by
  unfold X4_hasMill
  refine kI_ite ?_ ?_
  · exact kI_some keep_r
  · refine kI_ite ?_ ?_
    · exact kI_some keep_r
    · exact kI_some keep_r
/-! ClockRiver$River.hasWinder -/
theorem X4_hasWinder_fq (a0 : Nat) (a1 : Int32) (μ : sM) : kI (nQ a0) μ (X4_hasWinder a0 a1 μ) := by
  unfold X4_hasWinder
  refine kI_ite ?_ ?_
  · exact kI_some keep_r
  · refine kI_ite ?_ ?_
    · exact kI_some keep_r
    · exact kI_some keep_r
/-! ClockRiver$River.hasHours -/
theorem X4_hasHours_fq (a0 : Nat) (a1 : Int32) (μ : sM) : kI (nQ a0) μ (X4_hasHours a0 a1 μ) := by
  unfold X4_hasHours
  refine kI_ite ?_ ?_
  · exact kI_some keep_r
  · exact kI_some keep_r
/-! ClockRiver$River.runDown -/
theorem X4_runDown_L21_fq : ∀ (n : Nat) (v0 : Nat) (v1 : Int32) (v2 : Int32) (μ : sM), kV (nQ v0) μ (X4_runDown_L21 n v0 v1 v2 μ) := by
  intro n
  induction n with
  | zero =>
    intros
    exact kV_none
  | succ n ih =>
    intro v0 v1 v2 μ
    unfold X4_runDown_L21
    refine kV_ite ?_ ?_
    · exact kV_some (keep_wL (nQ_s rfl) keep_r)
    · refine kV_ck ?_
      refine kV_ck ?_
      refine kV_ck ?_
      refine kV_ck ?_
      exact kV_to (keep_wI (nQ_s rfl) keep_r) (ih v0 (rI μ 32 v0 (ix v2)) (v2 + 1) (wI μ 31 v0 (ix v2) ((rI μ 31 v0 (ix v2)) + (v1 - (rI μ 32 v0 (ix v2))))))
theorem X4_runDown_fq (a0 : Nat) (μ : sM) : kV (nQ a0) μ (X4_runDown a0 μ) := by
  unfold X4_runDown
  exact kV_to (keep_wL (nQ_s rfl) keep_r) (X4_runDown_L21_fq fuN a0 (rI μ 5 a0 0) 0 (wL μ 34 a0 4 ((rL μ 34 a0 4) + (Int32.toInt64 (rI μ 5 a0 0)))))
/-! ClockRiver$River.runUp -/
theorem X4_runUp_L30_fq : ∀ (n : Nat) (v0 : Nat) (v1 : Int32) (v2 : Int32) (μ : sM), kV (nQ v0) μ (X4_runUp_L30 n v0 v1 v2 μ) := by
  intro n
  induction n with
  | zero =>
    intros
    exact kV_none
  | succ n ih =>
    intro v0 v1 v2 μ
    unfold X4_runUp_L30
    refine kV_ite ?_ ?_
    · exact kV_some (keep_wL (nQ_s rfl) keep_r)
    · refine kV_ck ?_
      refine kV_ck ?_
      refine kV_ck ?_
      refine kV_ck ?_
      exact kV_to (keep_wI (nQ_s rfl) keep_r) (ih v0 (rI μ 32 v0 (ix v2)) (v2 + (-1)) (wI μ 31 v0 (ix v2) ((rI μ 31 v0 (ix v2)) + (v1 - (rI μ 32 v0 (ix v2))))))
theorem X4_runUp_fq (a0 : Nat) (μ : sM) : kV (nQ a0) μ (X4_runUp a0 μ) := by
  unfold X4_runUp
  exact kV_to (keep_wL (nQ_s rfl) keep_r) (X4_runUp_L30_fq fuN a0 (-(rI μ 5 a0 0)) ((rI μ 4 a0 0) - 1) (wL μ 34 a0 1 ((rL μ 34 a0 1) - (Int32.toInt64 (rI μ 5 a0 0)))))
/-! ClockRiver$River.slacken -/
theorem X4_slacken_J54_fq (v0 : Nat) (s0 : Int32) (μ : sM) : kV (nQ v0) μ (X4_slacken_J54 v0 s0 v0 μ) := by
  unfold X4_slacken_J54
  exact kV_some (keep_wI (nQ_s rfl) (keep_wI (nQ_s rfl) keep_r))
theorem X4_slacken_J22_fq (v0 : Nat) (s0 : Int32) (μ : sM) : kV (nQ v0) μ (X4_slacken_J22 v0 s0 μ) := by
  unfold X4_slacken_J22
  refine kV_ite ?_ ?_
  · exact kV_to keep_r (X4_slacken_J54_fq v0 (imn 0 ((rI μ 5 v0 0) + s0)) μ)
  · exact kV_to keep_r (X4_slacken_J54_fq v0 (imx 0 ((rI μ 5 v0 0) - s0)) μ)
theorem X4_slacken_fq (a0 : Nat) (μ : sM) : kV (nQ a0) μ (X4_slacken a0 μ) := by
  unfold X4_slacken
  refine kV_ite ?_ ?_
  · exact kV_to keep_r (X4_slacken_J22_fq a0 (rI μ 5 a0 1) μ)
  · exact kV_to keep_r (X4_slacken_J22_fq a0 (((rI μ 5 a0 1) + 1) / 2) μ)
/-! ClockRiver$River.passHour -/
theorem X4_passHour_J65_fq (v0 : Nat) (μ : sM) : kI (nQ v0) μ (X4_passHour_J65 v0 μ) := by
  unfold X4_passHour_J65
  refine kI_bI keep_r (X3_spill_fq v0 μ) (fun x1 μ2 h_μ2 => ?_)
  refine kI_bI (keep_wL (nQ_s rfl) h_μ2) (X2_grind_32_fq v0 v0 (wL μ2 34 v0 3 ((rL μ 34 v0 3) + (Int32.toInt64 x1)))) (fun x3 μ4 h_μ4 => ?_)
  refine kI_bV h_μ4 (X4_slacken_fq v0 μ4) (fun μ6 h_μ6 => ?_)
  exact kI_some (keep_wI (nQ_s rfl) h_μ6)
theorem X4_passHour_J25_fq (v0 : Nat) (μ : sM) : kI (nQ v0) μ (X4_passHour_J25 v0 μ) := by
  unfold X4_passHour_J25
  refine kI_ite ?_ ?_
  · exact kI_to keep_r (X4_passHour_J65_fq v0 μ)
  · refine kI_bV keep_r (X3_addEach_fq v0 (rI μ 5 v0 2) μ) (fun μ2 h_μ2 => ?_)
    exact kI_to (keep_wL (nQ_s rfl) h_μ2) (X4_passHour_J65_fq v0 (wL μ2 34 v0 5 ((rL μ2 34 v0 5) + (Int32.toInt64 ((rI μ2 5 v0 2) * (rI μ2 4 v0 0))))))
theorem X4_passHour_fq (a0 : Nat) (μ : sM) : kI (nQ a0) μ (X4_passHour a0 μ) := by
  unfold X4_passHour
  refine kI_bV keep_r (X3_letPass_fq a0 μ) (fun μ2 h_μ2 => ?_)
  refine kI_ite ?_ ?_
  · refine kI_bV h_μ2 (X4_runUp_fq a0 μ2) (fun μ4 h_μ4 => ?_)
    exact kI_to h_μ4 (X4_passHour_J25_fq a0 μ4)
  · refine kI_bV h_μ2 (X4_runDown_fq a0 μ2) (fun μ6 h_μ6 => ?_)
    exact kI_to h_μ6 (X4_passHour_J25_fq a0 μ6)
/-! ClockRiver$River.passHours -/
theorem X4_passHours_L4_fq : ∀ (n : Nat) (v0 : Nat) (v1 : Int32) (v2 : Int32) (v3 : Int32) (μ : sM), kI (nQ v0) μ (X4_passHours_L4 n v0 v1 v2 v3 μ) := by
  intro n
  induction n with
  | zero =>
    intros
    exact kI_none
  | succ n ih =>
    intro v0 v1 v2 v3 μ
    unfold X4_passHours_L4
    refine kI_ite ?_ ?_
    · exact kI_some keep_r
    · refine kI_bI keep_r (X4_passHour_fq v0 μ) (fun x1 μ2 h_μ2 => ?_)
      exact kI_to h_μ2 (ih v0 v1 (v2 + x1) (v3 + 1) μ2)
theorem X4_passHours_fq (a0 : Nat) (a1 : Int32) (μ : sM) : kI (nQ a0) μ (X4_passHours a0 a1 μ) := by
  unfold X4_passHours
  exact kI_to keep_r (X4_passHours_L4_fq fuN a0 a1 0 0 μ)
/-! ClockRiver$River.isLawDay -/
theorem X4_isLawDay_fq (a0 : Nat) (μ : sM) : kI (nQ a0) μ (X4_isLawDay a0 μ) := by
  unfold X4_isLawDay
  refine kI_ite ?_ ?_
  · exact kI_some keep_r
  · exact kI_some keep_r
/-! ClockRiver$River.letWind -/
theorem X4_letWind_J40_fq (v0 : Nat) (v1 : Int32) (s0 : Int32) (μ : sM) : kV (nQ v0) μ (X4_letWind_J40 v0 v1 s0 v0 μ) := by
  unfold X4_letWind_J40
  refine kV_bV (keep_wI (nQ_s rfl) keep_r) (X10_pay_fq v0 v1 (wI μ 5 v0 0 s0)) (fun μ2 h_μ2 => ?_)
  exact kV_some h_μ2
theorem X4_letWind_fq (a0 : Nat) (a1 : Int32) (a2 : Int32) (μ : sM) : kV (nQ a0) μ (X4_letWind a0 a1 a2 μ) := by
  unfold X4_letWind
  refine kV_ck ?_
  refine kV_ite ?_ ?_
  · exact kV_to keep_r (X4_letWind_J40_fq a0 a1 (imn 60 ((rI μ 5 a0 0) + (rI μ 51 a0 (ix a1)))) μ)
  · exact kV_to keep_r (X4_letWind_J40_fq a0 a1 (imx (-60) ((rI μ 5 a0 0) - (rI μ 51 a0 (ix a1)))) μ)
