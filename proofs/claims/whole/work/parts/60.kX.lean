/-! ClockRiver$Reaches.add -/
theorem X3_add_kp (a0 : Nat) (a1 : Int64) (a3 : Int32) (a4 : Int32) (a5 : Int32) (μ : sM) : kV pM μ (X3_add a0 a1 a3 a4 a5 μ) := by
  unfold X3_add
  refine kV_ite ?_ ?_
  · exact kV_some keep_r
  · refine kV_ck ?_
    refine kV_ck ?_
    refine kV_ck ?_
    refine kV_ck ?_
    exact kV_some (keep_wI rfl (keep_wI rfl (keep_wI rfl (keep_wI rfl (keep_wL rfl keep_r)))))
/-! ClockRiver$Reaches.copyFrom -/
theorem X3_copyFrom_kp (a0 : Nat) (a1 : Nat) (μ : sM) : kV pM μ (X3_copyFrom a0 a1 μ) := by
  unfold X3_copyFrom
  refine kV_ck ?_
  refine kV_ck ?_
  refine kV_ck ?_
  refine kV_ck ?_
  exact kV_some (keep_cI rfl (keep_cI rfl (keep_cI rfl (keep_cL rfl (keep_wI rfl keep_r)))))
/-! ClockRiver$Reaches.allHeld -/
theorem X3_allHeld_L4_kp : ∀ (n : Nat) (v0 : Nat) (v1 : Int32) (v2 : Int32) (μ : sM), kI pM μ (X3_allHeld_L4 n v0 v1 v2 μ) := by
  intro n
  induction n with
  | zero =>
    intros
    exact kI_none
  | succ n ih =>
    intro v0 v1 v2 μ
    unfold X3_allHeld_L4
    refine kI_ite ?_ ?_
    · exact kI_some keep_r
    · refine kI_ck ?_
      exact kI_to keep_r (ih v0 (v1 + (rI μ 31 v0 (ix v2))) (v2 + 1) μ)
theorem X3_allHeld_kp (a0 : Nat) (μ : sM) : kI pM μ (X3_allHeld a0 μ) := by
  unfold X3_allHeld
  exact kI_to keep_r (X3_allHeld_L4_kp fuN a0 0 0 μ)
/-! ClockRiver$Reaches.letPass -/
theorem X3_letPass_L2_kp : ∀ (n : Nat) (v0 : Nat) (v1 : Int32) (μ : sM), kV pM μ (X3_letPass_L2 n v0 v1 μ) := by
  intro n
  induction n with
  | zero =>
    intros
    exact kV_none
  | succ n ih =>
    intro v0 v1 μ
    unfold X3_letPass_L2
    refine kV_ite ?_ ?_
    · exact kV_some keep_r
    · refine kV_ck ?_
      refine kV_ck ?_
      refine kV_ck ?_
      exact kV_to (keep_wI rfl keep_r) (ih v0 (v1 + 1) (wI μ 32 v0 (ix v1) (imn (rI μ 31 v0 (ix v1)) (rI μ 30 v0 (ix v1)))))
theorem X3_letPass_kp (a0 : Nat) (μ : sM) : kV pM μ (X3_letPass a0 μ) := by
  unfold X3_letPass
  exact kV_to keep_r (X3_letPass_L2_kp fuN a0 0 μ)
/-! ClockRiver$Reaches.addEach -/
theorem X3_addEach_L2_kp : ∀ (n : Nat) (v0 : Nat) (v1 : Int32) (v2 : Int32) (μ : sM), kV pM μ (X3_addEach_L2 n v0 v1 v2 μ) := by
  intro n
  induction n with
  | zero =>
    intros
    exact kV_none
  | succ n ih =>
    intro v0 v1 v2 μ
    unfold X3_addEach_L2
    refine kV_ite ?_ ?_
    · exact kV_some keep_r
    · refine kV_ck ?_
      refine kV_ck ?_
      exact kV_to (keep_wI rfl keep_r) (ih v0 v1 (v2 + 1) (wI μ 31 v0 (ix v2) ((rI μ 31 v0 (ix v2)) + v1)))
theorem X3_addEach_kp (a0 : Nat) (a1 : Int32) (μ : sM) : kV pM μ (X3_addEach a0 a1 μ) := by
  unfold X3_addEach
  exact kV_to keep_r (X3_addEach_L2_kp fuN a0 a1 0 μ)
/-! ClockRiver$Reaches.spill -/
theorem X3_spill_L4_kp : ∀ (n : Nat) (v0 : Nat) (v1 : Int32) (v2 : Int32) (μ : sM), kI pM μ (X3_spill_L4 n v0 v1 v2 μ) := by
  intro n
  induction n with
  | zero =>
    intros
    exact kI_none
  | succ n ih =>
    intro v0 v1 v2 μ
    unfold X3_spill_L4
    refine kI_ite ?_ ?_
    · exact kI_some keep_r
    · refine kI_ck ?_
      refine kI_ck ?_
      refine kI_ck ?_
      refine kI_ck ?_
      refine kI_ck ?_
      refine kI_ck ?_
      refine kI_ck ?_
      exact kI_to (keep_wI rfl (keep_wI rfl keep_r)) (ih v0 (v1 + (rI (wI μ 33 v0 (ix v2) (imx 0 ((rI μ 31 v0 (ix v2)) - (rI μ 29 v0 (ix v2))))) 33 v0 (ix v2))) (v2 + 1) (wI (wI μ 33 v0 (ix v2) (imx 0 ((rI μ 31 v0 (ix v2)) - (rI μ 29 v0 (ix v2))))) 31 v0 (ix v2) ((rI μ 31 v0 (ix v2)) - (rI (wI μ 33 v0 (ix v2) (imx 0 ((rI μ 31 v0 (ix v2)) - (rI μ 29 v0 (ix v2))))) 33 v0 (ix v2)))))
theorem X3_spill_kp (a0 : Nat) (μ : sM) : kI pM μ (X3_spill a0 μ) := by
  unfold X3_spill
  exact kI_to keep_r (X3_spill_L4_kp fuN a0 0 0 μ)
/-! ClockRiver$Mills.add -/
theorem X2_add_kp (a0 : Nat) (a1 : Int64) (a3 : Int32) (a4 : Int32) (μ : sM) : kV pM μ (X2_add a0 a1 a3 a4 μ) := by
  unfold X2_add
  refine kV_ite ?_ ?_
  · exact kV_some keep_r
  · refine kV_ck ?_
    refine kV_ck ?_
    refine kV_ck ?_
    refine kV_ck ?_
    exact kV_some (keep_wI rfl (keep_wI rfl (keep_wI rfl (keep_wI rfl (keep_wL rfl keep_r)))))
/-! ClockRiver$Mills.copyFrom -/
theorem X2_copyFrom_kp (a0 : Nat) (a1 : Nat) (μ : sM) : kV pM μ (X2_copyFrom a0 a1 μ) := by
  unfold X2_copyFrom
  refine kV_ck ?_
  refine kV_ck ?_
  refine kV_ck ?_
  refine kV_ck ?_
  exact kV_some (keep_cI rfl (keep_cI rfl (keep_cI rfl (keep_cL rfl (keep_wI rfl keep_r)))))
/-! ClockRiver$Mills.allGround -/
theorem X2_allGround_L4_kp : ∀ (n : Nat) (v0 : Nat) (v1 : Int32) (v2 : Int32) (μ : sM), kI pM μ (X2_allGround_L4 n v0 v1 v2 μ) := by
  intro n
  induction n with
  | zero =>
    intros
    exact kI_none
  | succ n ih =>
    intro v0 v1 v2 μ
    unfold X2_allGround_L4
    refine kI_ite ?_ ?_
    · exact kI_some keep_r
    · refine kI_ck ?_
      exact kI_to keep_r (ih v0 (v1 + (rI μ 27 v0 (ix v2))) (v2 + 1) μ)
theorem X2_allGround_kp (a0 : Nat) (μ : sM) : kI pM μ (X2_allGround a0 μ) := by
  unfold X2_allGround
  exact kI_to keep_r (X2_allGround_L4_kp fuN a0 0 0 μ)
/-! ClockRiver$Mills.countAt -/
theorem X2_countAt_J25_kp {k4 : Nat → Int32 → Int32 → Int32 → sM → Option (Int32 × sM)} (hk4 : ∀ (v0 : Nat) (v1 : Int32) (v2 : Int32) (v3 : Int32) (μ : sM), kI pM μ (k4 v0 v1 v2 v3 μ)) (v0 : Nat) (v1 : Int32) (v2 : Int32) (v3 : Int32) (μ : sM) : kI pM μ (X2_countAt_J25 k4 v0 v1 v2 v3 μ) := by
  unfold X2_countAt_J25
  exact kI_to keep_r (hk4 v0 v1 v2 (v3 + 1) μ)
theorem X2_countAt_L4_kp : ∀ (n : Nat) (v0 : Nat) (v1 : Int32) (v2 : Int32) (v3 : Int32) (μ : sM), kI pM μ (X2_countAt_L4 n v0 v1 v2 v3 μ) := by
  intro n
  induction n with
  | zero =>
    intros
    exact kI_none
  | succ n ih =>
    intro v0 v1 v2 v3 μ
    unfold X2_countAt_L4
    refine kI_ite ?_ ?_
    · exact kI_some keep_r
    · refine kI_ck ?_
      refine kI_ite ?_ ?_
      · exact kI_to keep_r (X2_countAt_J25_kp ih v0 v1 (v2 + 1) v3 μ)
      · exact kI_to keep_r (X2_countAt_J25_kp ih v0 v1 v2 v3 μ)
theorem X2_countAt_kp (a0 : Nat) (a1 : Int32) (μ : sM) : kI pM μ (X2_countAt a0 a1 μ) := by
  unfold X2_countAt
  exact kI_to keep_r (X2_countAt_L4_kp fuN a0 a1 0 0 μ)
/-! ClockRiver$Mills.grind -/
theorem X2_grind_32_J42_kp {k4 : Nat → Nat → Int32 → Int32 → sM → Option (Int32 × sM)} (hk4 : ∀ (v0 : Nat) (v1 : Nat) (v2 : Int32) (v3 : Int32) (μ : sM), kI pM μ (k4 v0 v1 v2 v3 μ)) (v0 : Nat) (v1 : Nat) (v2 : Int32) (v3 : Int32) (μ : sM) : kI pM μ (X2_grind_32_J42 k4 v0 v1 v2 v3 μ) := by
  unfold X2_grind_32_J42
  exact kI_to keep_r (hk4 v0 v1 v2 (v3 + 1) μ)
theorem X2_grind_32_L4_kp : ∀ (n : Nat) (v0 : Nat) (v1 : Nat) (v2 : Int32) (v3 : Int32) (μ : sM), kI pM μ (X2_grind_32_L4 n v0 v1 v2 v3 μ) := by
  intro n
  induction n with
  | zero =>
    intros
    exact kI_none
  | succ n ih =>
    intro v0 v1 v2 v3 μ
    unfold X2_grind_32_L4
    refine kI_ite ?_ ?_
    · exact kI_some keep_r
    · refine kI_ck ?_
      refine kI_ck ?_
      refine kI_ck ?_
      refine kI_ite ?_ ?_
      · exact kI_to keep_r (X2_grind_32_J42_kp ih v0 v1 v2 v3 μ)
      · refine kI_ck ?_
        refine kI_ck ?_
        exact kI_to (keep_wI rfl keep_r) (X2_grind_32_J42_kp ih v0 v1 (v2 + 1) v3 (wI μ 27 v0 (ix v3) ((rI μ 27 v0 (ix v3)) + 1)))
theorem X2_grind_32_kp (a0 : Nat) (a1 : Nat) (μ : sM) : kI pM μ (X2_grind_32 a0 a1 μ) := by
  unfold X2_grind_32
  exact kI_to keep_r (X2_grind_32_L4_kp fuN a0 a1 0 0 μ)
/-! ClockRiver$Winders.add -/
theorem X10_add_kp (a0 : Nat) (a1 : Int64) (a3 : Int32) (a4 : Int32) (μ : sM) : kV pM μ (X10_add a0 a1 a3 a4 μ) := by
  unfold X10_add
  refine kV_ite ?_ ?_
  · exact kV_some keep_r
  · refine kV_ck ?_
    refine kV_ck ?_
    refine kV_ck ?_
    refine kV_ck ?_
    refine kV_ck ?_
    exact kV_some (keep_wI rfl (keep_wI rfl (keep_wI rfl (keep_wI rfl (keep_wI rfl (keep_wL rfl keep_r))))))
/-! ClockRiver$Winders.copyFrom -/
theorem X10_copyFrom_kp (a0 : Nat) (a1 : Nat) (μ : sM) : kV pM μ (X10_copyFrom a0 a1 μ) := by
  unfold X10_copyFrom
  refine kV_ck ?_
  refine kV_ck ?_
  refine kV_ck ?_
  refine kV_ck ?_
  refine kV_ck ?_
  exact kV_some (keep_cI rfl (keep_cI rfl (keep_cI rfl (keep_cI rfl (keep_cL rfl (keep_wI rfl keep_r))))))
/-! ClockRiver$Winders.allHad -/
theorem X10_allHad_L4_kp : ∀ (n : Nat) (v0 : Nat) (v1 : Int32) (v2 : Int32) (μ : sM), kI pM μ (X10_allHad_L4 n v0 v1 v2 μ) := by
  intro n
  induction n with
  | zero =>
    intros
    exact kI_none
  | succ n ih =>
    intro v0 v1 v2 μ
    unfold X10_allHad_L4
    refine kI_ite ?_ ?_
    · exact kI_some keep_r
    · refine kI_ck ?_
      exact kI_to keep_r (ih v0 (v1 + (rI μ 54 v0 (ix v2))) (v2 + 1) μ)
theorem X10_allHad_kp (a0 : Nat) (μ : sM) : kI pM μ (X10_allHad a0 μ) := by
  unfold X10_allHad
  exact kI_to keep_r (X10_allHad_L4_kp fuN a0 0 0 μ)
/-! ClockRiver$Winders.pay -/
theorem X10_pay_kp (a0 : Nat) (a1 : Int32) (μ : sM) : kV pM μ (X10_pay a0 a1 μ) := by
  unfold X10_pay
  refine kV_ck ?_
  refine kV_ck ?_
  refine kV_ck ?_
  refine kV_ck ?_
  refine kV_ck ?_
  exact kV_some (keep_wI rfl (keep_wI rfl keep_r))
/-! ClockRiver$Winders.sets -/
theorem X10_sets_kp (a0 : Nat) (μ : sM) : kI pM μ (X10_sets a0 μ) := by
  unfold X10_sets
  exact kI_some keep_r
/-! ClockRiver$Winders.canWind -/
theorem X10_canWind_J37_kp {k6 : Nat → Int32 → Int32 → Int32 → Int32 → sM → Option (Int32 × sM)} (hk6 : ∀ (v0 : Nat) (v1 : Int32) (v3 : Int32) (v4 : Int32) (v5 : Int32) (μ : sM), kI pM μ (k6 v0 v1 v3 v4 v5 μ)) (v0 : Nat) (v1 : Int32) (v3 : Int32) (v4 : Int32) (v5 : Int32) (μ : sM) : kI pM μ (X10_canWind_J37 k6 v0 v1 v3 v4 v5 μ) := by
  unfold X10_canWind_J37
  exact kI_to keep_r (hk6 v0 v1 v3 v4 (v5 + 1) μ)
theorem X10_canWind_L6_kp : ∀ (n : Nat) (v0 : Nat) (v1 : Int32) (v3 : Int32) (v4 : Int32) (v5 : Int32) (μ : sM), kI pM μ (X10_canWind_L6 n v0 v1 v3 v4 v5 μ) := by
  intro n
  induction n with
  | zero =>
    intros
    exact kI_none
  | succ n ih =>
    intro v0 v1 v3 v4 v5 μ
    unfold X10_canWind_L6
    refine kI_ite ?_ ?_
    · refine kI_ite ?_ ?_
      · exact kI_some keep_r
      · exact kI_some keep_r
    · refine kI_ite ?_ ?_
      · refine kI_ck ?_
        exact kI_to keep_r (X10_canWind_J37_kp ih v0 v1 v3 (v4 + (rI μ 51 v0 (ix v5))) v5 μ)
      · exact kI_to keep_r (X10_canWind_J37_kp ih v0 v1 v3 v4 v5 μ)
theorem X10_canWind_kp (a0 : Nat) (a1 : Int32) (a2 : Int32) (a3 : Int32) (μ : sM) : kI pM μ (X10_canWind a0 a1 a2 a3 μ) := by
  unfold X10_canWind
  exact kI_to keep_r (X10_canWind_L6_kp fuN a0 a1 a3 a2 0 μ)
/-! ClockRiver$Winders.wagesOf -/
theorem X10_wagesOf_J30_kp {k4 : Nat → Int32 → Int32 → Int32 → sM → Option (Int32 × sM)} (hk4 : ∀ (v0 : Nat) (v1 : Int32) (v2 : Int32) (v3 : Int32) (μ : sM), kI pM μ (k4 v0 v1 v2 v3 μ)) (v0 : Nat) (v1 : Int32) (v2 : Int32) (v3 : Int32) (μ : sM) : kI pM μ (X10_wagesOf_J30 k4 v0 v1 v2 v3 μ) := by
  unfold X10_wagesOf_J30
  exact kI_to keep_r (hk4 v0 v1 v2 (v3 + 1) μ)
theorem X10_wagesOf_L4_kp : ∀ (n : Nat) (v0 : Nat) (v1 : Int32) (v2 : Int32) (v3 : Int32) (μ : sM), kI pM μ (X10_wagesOf_L4 n v0 v1 v2 v3 μ) := by
  intro n
  induction n with
  | zero =>
    intros
    exact kI_none
  | succ n ih =>
    intro v0 v1 v2 v3 μ
    unfold X10_wagesOf_L4
    refine kI_ite ?_ ?_
    · exact kI_some keep_r
    · refine kI_ite ?_ ?_
      · refine kI_ck ?_
        exact kI_to keep_r (X10_wagesOf_J30_kp ih v0 v1 (v2 + (rI μ 52 v0 (ix v3))) v3 μ)
      · exact kI_to keep_r (X10_wagesOf_J30_kp ih v0 v1 v2 v3 μ)
theorem X10_wagesOf_kp (a0 : Nat) (a1 : Int32) (μ : sM) : kI pM μ (X10_wagesOf a0 a1 μ) := by
  unfold X10_wagesOf
  exact kI_to keep_r (X10_wagesOf_L4_kp fuN a0 a1 0 0 μ)
/-! ClockRiver$Trays.isTray -/
theorem X7_isTray_kp (a0 : Int32) (μ : sM) : kI pM μ (X7_isTray a0 μ) := by
  unfold X7_isTray
  refine kI_ite ?_ ?_
  · exact kI_some keep_r
  · refine kI_ite ?_ ?_
    · exact kI_some keep_r
    · exact kI_some keep_r
/-! ClockRiver$Trays.renew -/
theorem X7_renew_L17_kp : ∀ (n : Nat) (v1 : Int32) (v3 : Int32) (v4 : Int32) (μ : sM), kV pM μ (X7_renew_L17 n v1 v3 v4 μ) := by
  intro n
  induction n with
  | zero =>
    intros
    exact kV_none
  | succ n ih =>
    intro v1 v3 v4 μ
    unfold X7_renew_L17
    refine kV_ite ?_ ?_
    · exact kV_some keep_r
    · refine kV_ck ?_
      refine kV_ck ?_
      exact kV_to (keep_wL rfl keep_r) (ih v1 v3 (v4 + 1) (wL μ 40 (0 + (ix v1)) (ix v4) 0))
theorem X7_renew_kp (a1 : Int32) (a2 : Int32) (a3 : Int32) (μ : sM) : kV pM μ (X7_renew a1 a2 a3 μ) := by
  unfold X7_renew
  refine kV_ck ?_
  refine kV_ck ?_
  exact kV_to (keep_wI rfl (keep_wI rfl keep_r)) (X7_renew_L17_kp fuN a1 a3 0 (wI (wI μ 41 0 (ix a1) a2) 42 0 (ix a1) a3))
/-! ClockRiver$Trays.isMissing -/
theorem X7_isMissing_kp (a1 : Int32) (μ : sM) : kI pM μ (X7_isMissing a1 μ) := by
  unfold X7_isMissing
  refine kI_ck ?_
  refine kI_ite ?_ ?_
  · exact kI_some keep_r
  · exact kI_some keep_r
/-! ClockRiver$Trays.whyNoPlace -/
theorem X7_whyNoPlace_kp (a1 : Int32) (a2 : Int32) (μ : sM) : kI pM μ (X7_whyNoPlace a1 a2 μ) := by
  unfold X7_whyNoPlace
  refine kI_bI keep_r (X7_isTray_kp a1 μ) (fun x1 μ2 h_μ2 => ?_)
  refine kI_ite ?_ ?_
  · exact kI_some h_μ2
  · refine kI_bI h_μ2 (X7_isMissing_kp a1 μ2) (fun x3 μ4 h_μ4 => ?_)
    refine kI_ite ?_ ?_
    · refine kI_ite ?_ ?_
      · exact kI_some h_μ4
      · refine kI_ck ?_
        refine kI_ite ?_ ?_
        · exact kI_some h_μ4
        · exact kI_some h_μ4
    · exact kI_some h_μ4
/-! ClockRiver$Trays.cut -/
theorem X7_cut_kp (a0 : Int32) (a1 : Int64) (μ : sM) : kL pM μ (X7_cut a0 a1 μ) := by
  unfold X7_cut
  refine kL_ite ?_ ?_
  · exact kL_some keep_r
  refine kL_ite ?_ ?_
  · exact kL_some keep_r
  refine kL_ite ?_ ?_
  · exact kL_some keep_r
  exact kL_some keep_r
/-! ClockRiver$Trays.put -/
theorem X7_put_kp (a1 : Int32) (a2 : Int32) (a3 : Int64) (μ : sM) : kV pM μ (X7_put a1 a2 a3 μ) := by
  unfold X7_put
  refine kV_ck ?_
  refine kV_ck ?_
  refine kV_bL keep_r (X7_cut_kp (rI μ 41 0 (ix a1)) a3 μ) (fun x1 μ2 h_μ2 => ?_)
  refine kV_ck ?_
  exact kV_some (keep_wL rfl h_μ2)
/-! ClockRiver$Trays.hasRoom -/
theorem X7_hasRoom_kp (a1 : Int32) (a2 : Int32) (a3 : Int32) (μ : sM) : kI pM μ (X7_hasRoom a1 a2 a3 μ) := by
  unfold X7_hasRoom
  refine kI_ite ?_ ?_
  · exact kI_some keep_r
  · refine kI_ck ?_
    refine kI_ite ?_ ?_
    · exact kI_some keep_r
    · exact kI_some keep_r
/-! ClockRiver$Weeks.forget -/
theorem X8_forget_kp (a0 : Nat) (μ : sM) : kV pM μ (X8_forget a0 μ) := by
  unfold X8_forget
  exact kV_some (keep_wI rfl (keep_wI rfl (keep_wI rfl keep_r)))
/-! ClockRiver$Weeks.addRow -/
theorem X8_addRow_kp (a0 : Nat) (a1 : Int32) (μ : sM) : kI pM μ (X8_addRow a0 a1 μ) := by
  unfold X8_addRow
  refine kI_ck ?_
  refine kI_ck ?_
  refine kI_ck ?_
  refine kI_ck ?_
  refine kI_ck ?_
  refine kI_ck ?_
  exact kI_some (keep_wI rfl (keep_wI rfl (keep_wI rfl (keep_wI rfl (keep_wI rfl (keep_wI rfl (keep_wI rfl keep_r)))))))
/-! ClockRiver$Weeks.copyFrom -/
theorem X8_copyFrom_kp (a0 : Nat) (a1 : Nat) (μ : sM) : kV pM μ (X8_copyFrom a0 a1 μ) := by
  unfold X8_copyFrom
  refine kV_ck ?_
  refine kV_ck ?_
  refine kV_ck ?_
  refine kV_ck ?_
  refine kV_ck ?_
  refine kV_ck ?_
  refine kV_ck ?_
  exact kV_some (keep_cI rfl (keep_cI rfl (keep_cI rfl (keep_cI rfl (keep_cI rfl (keep_cI rfl (keep_wI rfl (keep_wI rfl (keep_wI rfl keep_r)))))))))
/-! ClockRiver$Tape.append -/
theorem X6_append_L3_kp : ∀ (n : Nat) (v1 : Int32) (v2 : Int32) (μ : sM), kV pM μ (X6_append_L3 n v1 v2 μ) := by
  intro n
  induction n with
  | zero =>
    intros
    exact kV_none
  | succ n ih =>
    intro v1 v2 μ
    unfold X6_append_L3
    refine kV_ite ?_ ?_
    · exact kV_some keep_r
    · refine kV_ite ?_ ?_
      · exact kV_some keep_r
      · refine kV_ck ?_
        exact kV_to (keep_wI rfl (keep_wI rfl keep_r)) (ih v1 (v2 + (-8)) (wI (wI μ 35 0 (ix (rI μ 7 0 1)) (Int8.toInt32 (Int32.toInt8 (Int8.toInt32 (Int32.toInt8 (isr v1 v2)))))) 7 0 1 ((rI μ 7 0 1) + 1)))
theorem X6_append_kp (a1 : Int32) (μ : sM) : kV pM μ (X6_append a1 μ) := by
  unfold X6_append
  exact kV_to keep_r (X6_append_L3_kp fuN a1 24 μ)
/-! ClockRiver$Tape.isBlank -/
theorem X6_isBlank_kp (a0 : Int32) (μ : sM) : kI pM μ (X6_isBlank a0 μ) := by
  unfold X6_isBlank
  refine kI_ite ?_ ?_
  · exact kI_some keep_r
  · refine kI_ite ?_ ?_
    · exact kI_some keep_r
    · exact kI_some keep_r
/-! ClockRiver$Tape.isLetter -/
theorem X6_isLetter_kp (a0 : Int32) (μ : sM) : kI pM μ (X6_isLetter a0 μ) := by
  unfold X6_isLetter
  refine kI_ite ?_ ?_
  · exact kI_some keep_r
  · refine kI_ite ?_ ?_
    · exact kI_some keep_r
    · exact kI_some keep_r
/-! ClockRiver$Tape.isLike -/
theorem X6_isLike_L3_kp : ∀ (n : Nat) (v1 : Int32) (v2 : Int32) (v3 : Int32) (v4 : Int32) (μ : sM), kI pM μ (X6_isLike_L3 n v1 v2 v3 v4 μ) := by
  intro n
  induction n with
  | zero =>
    intros
    exact kI_none
  | succ n ih =>
    intro v1 v2 v3 v4 μ
    unfold X6_isLike_L3
    refine kI_ite ?_ ?_
    · exact kI_some keep_r
    · refine kI_ck ?_
      refine kI_ck ?_
      refine kI_ite ?_ ?_
      · exact kI_to keep_r (ih v1 v2 v3 (v4 + 1) μ)
      · exact kI_some keep_r
theorem X6_isLike_kp (a1 : Int32) (a2 : Int32) (a3 : Int32) (μ : sM) : kI pM μ (X6_isLike a1 a2 a3 μ) := by
  unfold X6_isLike
  exact kI_to keep_r (X6_isLike_L3_kp fuN a1 a2 a3 a1 μ)
/-! ClockRiver$Tape.kindOfWord -/
theorem X6_kindOfWord_J74_kp {k19 : Int32 → Int32 → Int32 → Int32 → Int32 → sM → Option (Int32 × sM)} (hk19 : ∀ (v1 : Int32) (v2 : Int32) (v3 : Int32) (v4 : Int32) (v5 : Int32) (μ : sM), kI pM μ (k19 v1 v2 v3 v4 v5 μ)) (v1 : Int32) (v2 : Int32) (v3 : Int32) (v4 : Int32) (v5 : Int32) (μ : sM) : kI pM μ (X6_kindOfWord_J74 k19 v1 v2 v3 v4 v5 μ) := by
  unfold X6_kindOfWord_J74
  exact kI_to keep_r (hk19 v1 v2 v3 v4 (v5 + 1) μ)
theorem X6_kindOfWord_J65_kp {k19 : Int32 → Int32 → Int32 → Int32 → Int32 → sM → Option (Int32 × sM)} (hk19 : ∀ (v1 : Int32) (v2 : Int32) (v3 : Int32) (v4 : Int32) (v5 : Int32) (μ : sM), kI pM μ (k19 v1 v2 v3 v4 v5 μ)) (v1 : Int32) (v2 : Int32) (v3 : Int32) (v5 : Int32) (μ : sM) : kI pM μ (X6_kindOfWord_J65 k19 v1 v2 v3 v5 μ) := by
  unfold X6_kindOfWord_J65
  exact kI_to keep_r (X6_kindOfWord_J74_kp hk19 v1 v2 (v3 + 1) (v5 + 1) v5 μ)
theorem X6_kindOfWord_L19_kp : ∀ (n : Nat) (v1 : Int32) (v2 : Int32) (v3 : Int32) (v4 : Int32) (v5 : Int32) (μ : sM), kI pM μ (X6_kindOfWord_L19 n v1 v2 v3 v4 v5 μ) := by
  intro n
  induction n with
  | zero =>
    intros
    exact kI_none
  | succ n ih =>
    intro v1 v2 v3 v4 v5 μ
    unfold X6_kindOfWord_L19
    refine kI_ite ?_ ?_
    · exact kI_some keep_r
    · refine kI_ck ?_
      refine kI_ite ?_ ?_
      · refine kI_ite ?_ ?_
        · refine kI_bI keep_r (X6_isLike_kp v1 v2 v4 μ) (fun x1 μ2 h_μ2 => ?_)
          refine kI_ite ?_ ?_
          · exact kI_to h_μ2 (X6_kindOfWord_J65_kp ih v1 v2 v3 v5 μ2)
          · exact kI_some h_μ2
        · exact kI_to keep_r (X6_kindOfWord_J65_kp ih v1 v2 v3 v5 μ)
      · exact kI_to keep_r (X6_kindOfWord_J74_kp ih v1 v2 v3 v4 v5 μ)
theorem X6_kindOfWord_kp (a1 : Int32) (a2 : Int32) (μ : sM) : kI pM μ (X6_kindOfWord a1 a2 μ) := by
  unfold X6_kindOfWord
  refine kI_ite ?_ ?_
  · exact kI_to keep_r (X6_kindOfWord_L19_kp fuN a1 a2 0 0 0 μ)
  · exact kI_some keep_r
/-! ClockRiver$Tape.addWord -/
theorem X6_addWord_L51_kp : ∀ (n : Nat) (v3 : Int32) (v4 : Int32) (μ : sM), kI pM μ (X6_addWord_L51 n v3 v4 μ) := by
  intro n
  induction n with
  | zero =>
    intros
    exact kI_none
  | succ n ih =>
    intro v3 v4 μ
    unfold X6_addWord_L51
    refine kI_ite ?_ ?_
    · exact kI_some keep_r
    · refine kI_ck ?_
      refine kI_ck ?_
      refine kI_ck ?_
      exact kI_to (keep_wL rfl keep_r) (ih v3 (v4 + 1) (wL μ 38 0 (ix (rI μ 7 0 8)) (((rL μ 38 0 (ix (rI μ 7 0 8))) * 256) + (Int32.toInt64 (rI μ 35 0 (ix v4))))))
theorem X6_addWord_J25_kp (v1 : Int32) (v3 : Int32) (μ : sM) : kI pM μ (X6_addWord_J25 v1 v3 μ) := by
  unfold X6_addWord_J25
  refine kI_bI keep_r (X6_kindOfWord_kp v1 v3 μ) (fun x1 μ2 h_μ2 => ?_)
  refine kI_ck ?_
  refine kI_ite ?_ ?_
  · exact kI_some (keep_wI rfl h_μ2)
  · exact kI_to (keep_wI rfl h_μ2) (X6_addWord_L51_kp fuN v3 v1 (wI μ2 36 0 (ix (rI μ 7 0 8)) x1))
theorem X6_addWord_L2_kp : ∀ (n : Nat) (v1 : Int32) (v2 : Int32) (v3 : Int32) (μ : sM), kI pM μ (X6_addWord_L2 n v1 v2 v3 μ) := by
  intro n
  induction n with
  | zero =>
    intros
    exact kI_none
  | succ n ih =>
    intro v1 v2 v3 μ
    unfold X6_addWord_L2
    refine kI_ite ?_ ?_
    · exact kI_to keep_r (X6_addWord_J25_kp v1 v3 μ)
    · refine kI_ck ?_
      refine kI_bI keep_r (X6_isLetter_kp (rI μ 35 0 (ix v3)) μ) (fun x1 μ2 h_μ2 => ?_)
      refine kI_ite ?_ ?_
      · exact kI_to h_μ2 (X6_addWord_J25_kp v1 v3 μ2)
      · exact kI_to h_μ2 (ih v1 v2 (v3 + 1) μ2)
theorem X6_addWord_kp (a1 : Int32) (a2 : Int32) (μ : sM) : kI pM μ (X6_addWord a1 a2 μ) := by
  unfold X6_addWord
  exact kI_to keep_r (X6_addWord_L2_kp fuN a1 a2 a1 μ)
/-! ClockRiver$Tape.isDigit -/
theorem X6_isDigit_kp (a0 : Int32) (μ : sM) : kI pM μ (X6_isDigit a0 μ) := by
  unfold X6_isDigit
  refine kI_ite ?_ ?_
  · exact kI_some keep_r
  · refine kI_ite ?_ ?_
    · exact kI_some keep_r
    · exact kI_some keep_r
/-! ClockRiver$Tape.addNumber -/
theorem X6_addNumber_J60_kp {k2 : Int32 → Int32 → Int32 → sM → Option (Int32 × sM)} (hk2 : ∀ (v1 : Int32) (v2 : Int32) (v3 : Int32) (μ : sM), kI pM μ (k2 v1 v2 v3 μ)) (v1 : Int32) (v2 : Int32) (v3 : Int32) (μ : sM) : kI pM μ (X6_addNumber_J60 k2 v1 v2 v3 μ) := by
  unfold X6_addNumber_J60
  exact kI_to keep_r (hk2 v1 v2 (v3 + 1) μ)
theorem X6_addNumber_J100_kp (v2 : Int32) (v3 : Int32) (v4 : Int32) (s0 : Int32) (s1 : Int32) (μ : sM) : kI pM μ (X6_addNumber_J100 v2 v3 v4 s0 s1 μ) := by
  unfold X6_addNumber_J100
  refine kI_ck ?_
  refine kI_ite ?_ ?_
  · exact kI_some (keep_wI rfl keep_r)
  · exact kI_some (keep_wI rfl keep_r)
theorem X6_addNumber_J78_kp (v2 : Int32) (v3 : Int32) (s0 : Int32) (μ : sM) : kI pM μ (X6_addNumber_J78 v2 v3 s0 μ) := by
  unfold X6_addNumber_J78
  refine kI_ite ?_ ?_
  · exact kI_to keep_r (X6_addNumber_J100_kp v2 v3 s0 31 (rI μ 7 0 8) μ)
  · exact kI_to keep_r (X6_addNumber_J100_kp v2 v3 s0 29 (rI μ 7 0 8) μ)
theorem X6_addNumber_J66_kp (v1 : Int32) (v2 : Int32) (v3 : Int32) (μ : sM) : kI pM μ (X6_addNumber_J66 v1 v2 v3 μ) := by
  unfold X6_addNumber_J66
  refine kI_ite ?_ ?_
  · exact kI_to keep_r (X6_addNumber_J78_kp v2 v3 0 μ)
  · exact kI_to keep_r (X6_addNumber_J78_kp v2 v3 1 μ)
theorem X6_addNumber_L2_kp : ∀ (n : Nat) (v1 : Int32) (v2 : Int32) (v3 : Int32) (μ : sM), kI pM μ (X6_addNumber_L2 n v1 v2 v3 μ) := by
  intro n
  induction n with
  | zero =>
    intros
    exact kI_none
  | succ n ih =>
    intro v1 v2 v3 μ
    unfold X6_addNumber_L2
    refine kI_ite ?_ ?_
    · exact kI_to keep_r (X6_addNumber_J66_kp v1 v2 v3 μ)
    · refine kI_ck ?_
      refine kI_bI keep_r (X6_isDigit_kp (rI μ 35 0 (ix v3)) μ) (fun x1 μ2 h_μ2 => ?_)
      refine kI_ite ?_ ?_
      · exact kI_to h_μ2 (X6_addNumber_J66_kp v1 v2 v3 μ2)
      · refine kI_ite ?_ ?_
        · exact kI_to h_μ2 (X6_addNumber_J60_kp ih v1 v2 v3 μ2)
        · refine kI_ck ?_
          refine kI_ck ?_
          refine kI_ck ?_
          exact kI_to (keep_wL rfl h_μ2) (X6_addNumber_J60_kp ih v1 v2 v3 (wL μ2 38 0 (ix (rI μ2 7 0 8)) ((((rL μ2 38 0 (ix (rI μ2 7 0 8))) * 10) + (Int32.toInt64 (rI μ2 35 0 (ix v3)))) - 48)))
theorem X6_addNumber_kp (a1 : Int32) (a2 : Int32) (μ : sM) : kI pM μ (X6_addNumber a1 a2 μ) := by
  unfold X6_addNumber
  exact kI_to keep_r (X6_addNumber_L2_kp fuN a1 a2 a1 μ)
/-! ClockRiver$Tape.addSign -/
theorem X6_addSign_J58_kp (v1 : Int32) (v2 : Int32) (v3 : Int32) (v4 : Int32) (s0 : Int32) (s1 : Int32) (μ : sM) : kI pM μ (X6_addSign_J58 v1 v2 v3 v4 s0 s1 μ) := by
  unfold X6_addSign_J58
  refine kI_ck ?_
  refine kI_ck ?_
  refine kI_ite ?_ ?_
  · exact kI_some (keep_wL rfl (keep_wI rfl keep_r))
  · exact kI_some (keep_wL rfl (keep_wI rfl keep_r))
theorem X6_addSign_J36_kp (v1 : Int32) (v2 : Int32) (v3 : Int32) (s0 : Int32) (μ : sM) : kI pM μ (X6_addSign_J36 v1 v2 v3 s0 μ) := by
  unfold X6_addSign_J36
  refine kI_ite ?_ ?_
  · exact kI_to keep_r (X6_addSign_J58_kp v1 v2 v3 s0 31 (rI μ 7 0 8) μ)
  · exact kI_to keep_r (X6_addSign_J58_kp v1 v2 v3 s0 30 (rI μ 7 0 8) μ)
theorem X6_addSign_J31_kp (v1 : Int32) (v2 : Int32) (v3 : Int32) (μ : sM) : kI pM μ (X6_addSign_J31 v1 v2 v3 μ) := by
  unfold X6_addSign_J31
  exact kI_to keep_r (X6_addSign_J36_kp v1 v2 v3 1 μ)
theorem X6_addSign_kp (a1 : Int32) (a2 : Int32) (μ : sM) : kI pM μ (X6_addSign a1 a2 μ) := by
  unfold X6_addSign
  refine kI_ck ?_
  refine kI_ite ?_ ?_
  · exact kI_to keep_r (X6_addSign_J31_kp a1 a2 (rI μ 35 0 (ix a1)) μ)
  · refine kI_ite ?_ ?_
    · exact kI_to keep_r (X6_addSign_J31_kp a1 a2 (rI μ 35 0 (ix a1)) μ)
    · refine kI_ite ?_ ?_
      · exact kI_to keep_r (X6_addSign_J31_kp a1 a2 (rI μ 35 0 (ix a1)) μ)
      · refine kI_ite ?_ ?_
        · exact kI_to keep_r (X6_addSign_J31_kp a1 a2 (rI μ 35 0 (ix a1)) μ)
        · exact kI_to keep_r (X6_addSign_J36_kp a1 a2 (rI μ 35 0 (ix a1)) 0 μ)
/-! ClockRiver$Tape.addToken -/
theorem X6_addToken_J123_kp (v4 : Int32) (μ : sM) : kI pM μ (X6_addToken_J123 v4 μ) := by
  unfold X6_addToken_J123
  exact kI_some (keep_wI rfl keep_r)
theorem X6_addToken_J25_kp (v2 : Int32) (v3 : Int32) (μ : sM) : kI pM μ (X6_addToken_J25 v2 v3 μ) := by
  unfold X6_addToken_J25
  refine kI_ck ?_
  refine kI_ck ?_
  refine kI_ite ?_ ?_
  · refine kI_ck ?_
    refine kI_bI (keep_wL rfl (keep_wI rfl keep_r)) (X6_isLetter_kp (rI μ 35 0 (ix v3)) (wL (wI μ 37 0 (ix (rI μ 7 0 8)) v3) 38 0 (ix (rI μ 7 0 8)) 0)) (fun x1 μ2 h_μ2 => ?_)
    refine kI_ite ?_ ?_
    · refine kI_ck ?_
      refine kI_bI h_μ2 (X6_isDigit_kp (rI μ2 35 0 (ix v3)) μ2) (fun x3 μ4 h_μ4 => ?_)
      refine kI_ite ?_ ?_
      · refine kI_bI h_μ4 (X6_addSign_kp v3 v2 μ4) (fun x5 μ6 h_μ6 => ?_)
        exact kI_to h_μ6 (X6_addToken_J123_kp x5 μ6)
      · refine kI_bI h_μ4 (X6_addNumber_kp v3 v2 μ4) (fun x7 μ8 h_μ8 => ?_)
        exact kI_to h_μ8 (X6_addToken_J123_kp x7 μ8)
    · refine kI_bI h_μ2 (X6_addWord_kp v3 v2 μ2) (fun x9 μ10 h_μ10 => ?_)
      exact kI_to h_μ10 (X6_addToken_J123_kp x9 μ10)
  · refine kI_ck ?_
    exact kI_to (keep_wI rfl (keep_wL rfl (keep_wI rfl keep_r))) (X6_addToken_J123_kp (v2 + 1) (wI (wL (wI μ 37 0 (ix (rI μ 7 0 8)) v3) 38 0 (ix (rI μ 7 0 8)) 0) 36 0 (ix (rI μ 7 0 8)) 32))
theorem X6_addToken_L2_kp : ∀ (n : Nat) (v2 : Int32) (v3 : Int32) (μ : sM), kI pM μ (X6_addToken_L2 n v2 v3 μ) := by
  intro n
  induction n with
  | zero =>
    intros
    exact kI_none
  | succ n ih =>
    intro v2 v3 μ
    unfold X6_addToken_L2
    refine kI_ite ?_ ?_
    · exact kI_to keep_r (X6_addToken_J25_kp v2 v3 μ)
    · refine kI_ck ?_
      refine kI_bI keep_r (X6_isBlank_kp (rI μ 35 0 (ix v3)) μ) (fun x1 μ2 h_μ2 => ?_)
      refine kI_ite ?_ ?_
      · exact kI_to h_μ2 (X6_addToken_J25_kp v2 v3 μ2)
      · exact kI_to h_μ2 (ih v2 (v3 + 1) μ2)
theorem X6_addToken_kp (a1 : Int32) (a2 : Int32) (μ : sM) : kI pM μ (X6_addToken a1 a2 μ) := by
  unfold X6_addToken
  exact kI_to keep_r (X6_addToken_L2_kp fuN a2 a1 μ)
/-! ClockRiver$Tape.begin -/
theorem X6_begin_J43_kp (μ : sM) : kV pM μ (X6_begin_J43 μ) := by
  unfold X6_begin_J43
  exact kV_some (keep_wL rfl (keep_wI rfl (keep_wI rfl (keep_wI rfl (keep_wI rfl (keep_wI rfl keep_r))))))
theorem X6_begin_L19_kp : ∀ (n : Nat) (v2 : Int32) (v3 : Int32) (v4 : Int32) (μ : sM), kV pM μ (X6_begin_L19 n v2 v3 v4 μ) := by
  intro n
  induction n with
  | zero =>
    intros
    exact kV_none
  | succ n ih =>
    intro v2 v3 v4 μ
    unfold X6_begin_L19
    refine kV_ite ?_ ?_
    · exact kV_to keep_r (X6_begin_J43_kp μ)
    · refine kV_ite ?_ ?_
      · exact kV_to keep_r (X6_begin_J43_kp μ)
      · refine kV_bI keep_r (X6_addToken_kp v3 v2 μ) (fun x1 μ2 h_μ2 => ?_)
        exact kV_to h_μ2 (ih v2 x1 (v4 + 1) μ2)
theorem X6_begin_kp (a1 : Int32) (μ : sM) : kV pM μ (X6_begin a1 μ) := by
  unfold X6_begin
  exact kV_to (keep_wI rfl keep_r) (X6_begin_L19_kp fuN (imn a1 (rI μ 7 0 1)) 0 0 (wI μ 7 0 8 0))
/-! ClockRiver$Tape.fail -/
theorem X6_fail_kp (a1 : Int32) (μ : sM) : kI pM μ (X6_fail a1 μ) := by
  unfold X6_fail
  refine kI_ck ?_
  exact kI_some (keep_wI rfl (keep_wI rfl keep_r))
/-! ClockRiver$Tape.advance -/
theorem X6_advance_kp (μ : sM) : kV pM μ (X6_advance μ) := by
  unfold X6_advance
  refine kV_ite ?_ ?_
  · exact kV_some keep_r
  · refine kV_ck ?_
    refine kV_ck ?_
    exact kV_some (keep_wL rfl (keep_wI rfl (keep_wI rfl keep_r)))
/-! ClockRiver$Tape.failToStand -/
theorem X6_failToStand_J15_kp (s0 : Int32) (μ : sM) : kI pM μ (X6_failToStand_J15 s0 μ) := by
  unfold X6_failToStand_J15
  refine kI_bI keep_r (X6_fail_kp s0 μ) (fun x1 μ2 h_μ2 => ?_)
  refine kI_ck ?_
  exact kI_some h_μ2
theorem X6_failToStand_kp (μ : sM) : kI pM μ (X6_failToStand μ) := by
  unfold X6_failToStand
  refine kI_ite ?_ ?_
  · exact kI_to keep_r (X6_failToStand_J15_kp 1 μ)
  · exact kI_to keep_r (X6_failToStand_J15_kp 2 μ)
/-! ClockRiver$Tape.takeNumber -/
theorem X6_takeNumber_J34_kp (μ : sM) : kI pM μ (X6_takeNumber_J34 μ) := by
  unfold X6_takeNumber_J34
  refine kI_bI keep_r (X6_fail_kp 4 μ) (fun x1 μ2 h_μ2 => ?_)
  refine kI_ck ?_
  exact kI_some h_μ2
theorem X6_takeNumber_kp (a1 : Int32) (a2 : Int32) (μ : sM) : kI pM μ (X6_takeNumber a1 a2 μ) := by
  unfold X6_takeNumber
  refine kI_ite ?_ ?_
  · refine kI_ite ?_ ?_
    · exact kI_to keep_r (X6_takeNumber_J34_kp μ)
    · refine kI_ite ?_ ?_
      · refine kI_bV (keep_wI rfl keep_r) (X6_advance_kp (wI μ 7 0 6 (Int64.toInt32 (rL μ 7 0 5)))) (fun μ2 h_μ2 => ?_)
        exact kI_some h_μ2
      · exact kI_to keep_r (X6_takeNumber_J34_kp μ)
  · refine kI_bI keep_r (X6_failToStand_kp μ) (fun x3 μ4 h_μ4 => ?_)
    refine kI_ck ?_
    exact kI_some h_μ4
/-! ClockRiver$Tape.takeEnd -/
theorem X6_takeEnd_J20_kp (μ : sM) : kI pM μ (X6_takeEnd_J20 μ) := by
  unfold X6_takeEnd_J20
  refine kI_bI keep_r (X6_failToStand_kp μ) (fun x1 μ2 h_μ2 => ?_)
  refine kI_ck ?_
  exact kI_some h_μ2
theorem X6_takeEnd_kp (μ : sM) : kI pM μ (X6_takeEnd μ) := by
  unfold X6_takeEnd
  refine kI_ite ?_ ?_
  · refine kI_ite ?_ ?_
    · refine kI_bV keep_r (X6_advance_kp μ) (fun μ2 h_μ2 => ?_)
      exact kI_some h_μ2
    · exact kI_to keep_r (X6_takeEnd_J20_kp μ)
  · exact kI_to keep_r (X6_takeEnd_J20_kp μ)
/-! ClockRiver$Tape.takeWord -/
theorem X6_takeWord_kp (a1 : Int32) (μ : sM) : kI pM μ (X6_takeWord a1 μ) := by
  unfold X6_takeWord
  refine kI_ite ?_ ?_
  · refine kI_bV keep_r (X6_advance_kp μ) (fun μ2 h_μ2 => ?_)
    exact kI_some h_μ2
  · refine kI_bI keep_r (X6_failToStand_kp μ) (fun x3 μ4 h_μ4 => ?_)
    refine kI_ck ?_
    exact kI_some h_μ4
/-! ClockRiver$River.clear -/
theorem X4_clear_L37_kp : ∀ (n : Nat) (v0 : Nat) (v1 : Int32) (μ : sM), kV pM μ (X4_clear_L37 n v0 v1 μ) := by
  intro n
  induction n with
  | zero =>
    intros
    exact kV_none
  | succ n ih =>
    intro v0 v1 μ
    unfold X4_clear_L37
    refine kV_ite ?_ ?_
    · exact kV_some (keep_wI rfl (keep_wI rfl (keep_wI rfl keep_r)))
    · refine kV_ck ?_
      exact kV_to (keep_wL rfl keep_r) (ih v0 (v1 + 1) (wL μ 34 v0 (ix v1) 0))
theorem X4_clear_kp (a0 : Nat) (μ : sM) : kV pM μ (X4_clear a0 μ) := by
  unfold X4_clear
  exact kV_to (keep_wI rfl (keep_wI rfl (keep_wI rfl (keep_wI rfl (keep_wI rfl (keep_wI rfl (keep_wI rfl keep_r))))))) (X4_clear_L37_kp fuN a0 0 (wI (wI (wI (wI (wI (wI (wI μ 5 a0 0 0) 5 a0 1 1) 5 a0 2 5) 5 a0 3 4) 5 a0 4 0) 5 a0 5 0) 5 a0 6 0))
/-! ClockRiver$River.placeOf -/
theorem X4_placeOf_28_L3_kp : ∀ (n : Nat) (v0 : Int64) (v2 : Nat) (v3 : Int32) (v4 : Int32) (μ : sM), kI pM μ (X4_placeOf_28_L3 n v0 v2 v3 v4 μ) := by
  intro n
  induction n with
  | zero =>
    intros
    exact kI_none
  | succ n ih =>
    intro v0 v2 v3 v4 μ
    unfold X4_placeOf_28_L3
    refine kI_ite ?_ ?_
    · exact kI_some keep_r
    · refine kI_ck ?_
      refine kI_ite ?_ ?_
      · exact kI_some keep_r
      · exact kI_to keep_r (ih v0 v2 v3 (v4 + 1) μ)
theorem X4_placeOf_28_kp (a0 : Int64) (a2 : Nat) (a3 : Int32) (μ : sM) : kI pM μ (X4_placeOf_28 a0 a2 a3 μ) := by
  unfold X4_placeOf_28
  exact kI_to keep_r (X4_placeOf_28_L3_kp fuN a0 a2 a3 0 μ)
/-! ClockRiver$River.placeOf -/
theorem X4_placeOf_24_L3_kp : ∀ (n : Nat) (v0 : Int64) (v2 : Nat) (v3 : Int32) (v4 : Int32) (μ : sM), kI pM μ (X4_placeOf_24_L3 n v0 v2 v3 v4 μ) := by
  intro n
  induction n with
  | zero =>
    intros
    exact kI_none
  | succ n ih =>
    intro v0 v2 v3 v4 μ
    unfold X4_placeOf_24_L3
    refine kI_ite ?_ ?_
    · exact kI_some keep_r
    · refine kI_ck ?_
      refine kI_ite ?_ ?_
      · exact kI_some keep_r
      · exact kI_to keep_r (ih v0 v2 v3 (v4 + 1) μ)
theorem X4_placeOf_24_kp (a0 : Int64) (a2 : Nat) (a3 : Int32) (μ : sM) : kI pM μ (X4_placeOf_24 a0 a2 a3 μ) := by
  unfold X4_placeOf_24
  exact kI_to keep_r (X4_placeOf_24_L3_kp fuN a0 a2 a3 0 μ)
/-! ClockRiver$River.placeOf -/
theorem X4_placeOf_50_L3_kp : ∀ (n : Nat) (v0 : Int64) (v2 : Nat) (v3 : Int32) (v4 : Int32) (μ : sM), kI pM μ (X4_placeOf_50_L3 n v0 v2 v3 v4 μ) := by
  intro n
  induction n with
  | zero =>
    intros
    exact kI_none
  | succ n ih =>
    intro v0 v2 v3 v4 μ
    unfold X4_placeOf_50_L3
    refine kI_ite ?_ ?_
    · exact kI_some keep_r
    · refine kI_ck ?_
      refine kI_ite ?_ ?_
      · exact kI_some keep_r
      · exact kI_to keep_r (ih v0 v2 v3 (v4 + 1) μ)
theorem X4_placeOf_50_kp (a0 : Int64) (a2 : Nat) (a3 : Int32) (μ : sM) : kI pM μ (X4_placeOf_50 a0 a2 a3 μ) := by
  unfold X4_placeOf_50
  exact kI_to keep_r (X4_placeOf_50_L3_kp fuN a0 a2 a3 0 μ)
/-! ClockRiver$River.isTaken -/
theorem X4_isTaken_kp (a0 : Nat) (a1 : Int64) (μ : sM) : kI pM μ (X4_isTaken a0 a1 μ) := by
  unfold X4_isTaken
  refine kI_bI keep_r (X4_placeOf_28_kp a1 a0 (rI μ 4 a0 0) μ) (fun x1 μ2 h_μ2 => ?_)
  refine kI_ite ?_ ?_
  · refine kI_bI h_μ2 (X4_placeOf_24_kp a1 a0 (rI μ2 3 a0 0) μ2) (fun x3 μ4 h_μ4 => ?_)
    refine kI_ite ?_ ?_
    · refine kI_bI h_μ4 (X4_placeOf_50_kp a1 a0 (rI μ4 11 a0 0) μ4) (fun x5 μ6 h_μ6 => ?_)
      refine kI_ite ?_ ?_
      · exact kI_some h_μ6
      · exact kI_some h_μ6
    · exact kI_some h_μ4
  · exact kI_some h_μ2
/-! ClockRiver$River.copyFrom -/
theorem X4_copyFrom_kp (a0 : Nat) (a1 : Nat) (μ : sM) : kV pM μ (X4_copyFrom a0 a1 μ) := by
  unfold X4_copyFrom
  refine kV_ck ?_
  refine kV_ck ?_
  refine kV_bV (keep_cL rfl (keep_wI rfl (keep_wI rfl (keep_wI rfl (keep_wI rfl (keep_wI rfl (keep_wI rfl (keep_wI rfl keep_r)))))))) (X3_copyFrom_kp a0 a1 (cL (wI (wI (wI (wI (wI (wI (wI μ 5 a0 0 (rI μ 5 a1 0)) 5 a0 1 (rI μ 5 a1 1)) 5 a0 2 (rI μ 5 a1 2)) 5 a0 3 (rI μ 5 a1 3)) 5 a0 4 (rI μ 5 a1 4)) 5 a0 5 (rI μ 5 a1 5)) 5 a0 6 (rI μ 5 a1 6)) 34 a1 (ix 0) 34 a0 (ix 0) (ix 6))) (fun μ2 h_μ2 => ?_)
  refine kV_bV h_μ2 (X2_copyFrom_kp a0 a1 μ2) (fun μ4 h_μ4 => ?_)
  refine kV_bV h_μ4 (X10_copyFrom_kp a0 a1 μ4) (fun μ6 h_μ6 => ?_)
  exact kV_some h_μ6
/-! ClockRiver$River.figure -/
theorem X4_figure_kp (a0 : Nat) (a1 : Int32) (μ : sM) : kI pM μ (X4_figure a0 a1 μ) := by
  unfold X4_figure
  refine kI_ite ?_ ?_
  · exact kI_some keep_r
  refine kI_ite ?_ ?_
  · exact kI_some keep_r
  refine kI_ite ?_ ?_
  · exact kI_some keep_r
  refine kI_ite ?_ ?_
  · exact kI_some keep_r
  refine kI_ite ?_ ?_
  · exact kI_some keep_r
  refine kI_ite ?_ ?_
  · exact kI_some keep_r
  refine kI_ite ?_ ?_
  · exact kI_some keep_r
  refine kI_ite ?_ ?_
  · exact kI_some keep_r
  refine kI_ite ?_ ?_
  · refine kI_ite ?_ ?_
    · exact kI_some keep_r
    · exact kI_some keep_r
  refine kI_ite ?_ ?_
  · exact kI_some keep_r
  refine kI_ite ?_ ?_
  · refine kI_bI keep_r (X3_allHeld_kp a0 μ) (fun x1 μ2 h_μ2 => ?_)
    exact kI_some h_μ2
  refine kI_ite ?_ ?_
  · refine kI_bI keep_r (X10_allHad_kp a0 μ) (fun x3 μ4 h_μ4 => ?_)
    exact kI_some h_μ4
  refine kI_bI keep_r (X2_allGround_kp a0 μ) (fun x5 μ6 h_μ6 => ?_)
  exact kI_some h_μ6
/-! ClockRiver$River.hasReach -/
theorem X4_hasReach_kp (a0 : Nat) (a1 : Int32) (μ : sM) : kI pM μ (X4_hasReach a0 a1 μ) := by
  unfold X4_hasReach
  refine kI_ite ?_ ?_
  · exact kI_some keep_r
  · refine kI_ite ?_ ?_
    · exact kI_some keep_r
    · exact kI_some keep_r
/-! ClockRiver$River.hasMill -/
theorem X4_hasMill_kp (a0 : Nat) (a1 : Int32) (μ : sM) : kI pM μ (X4_hasMill a0 a1 μ) := by
  unfold X4_hasMill
  refine kI_ite ?_ ?_
  · exact kI_some keep_r
  · refine kI_ite ?_ ?_
    · exact kI_some keep_r
    · exact kI_some keep_r
/-! ClockRiver$River.hasWinder -/
theorem X4_hasWinder_kp (a0 : Nat) (a1 : Int32) (μ : sM) : kI pM μ (X4_hasWinder a0 a1 μ) := by
  unfold X4_hasWinder
  refine kI_ite ?_ ?_
  · exact kI_some keep_r
  · refine kI_ite ?_ ?_
    · exact kI_some keep_r
    · exact kI_some keep_r
/-! ClockRiver$River.hasHours -/
theorem X4_hasHours_kp (a0 : Nat) (a1 : Int32) (μ : sM) : kI pM μ (X4_hasHours a0 a1 μ) := by
  unfold X4_hasHours
  refine kI_ite ?_ ?_
  · exact kI_some keep_r
  · exact kI_some keep_r
/-! ClockRiver$River.runDown -/
theorem X4_runDown_L21_kp : ∀ (n : Nat) (v0 : Nat) (v1 : Int32) (v2 : Int32) (μ : sM), kV pM μ (X4_runDown_L21 n v0 v1 v2 μ) := by
  intro n
  induction n with
  | zero =>
    intros
    exact kV_none
  | succ n ih =>
    intro v0 v1 v2 μ
    unfold X4_runDown_L21
    refine kV_ite ?_ ?_
    · exact kV_some (keep_wL rfl keep_r)
    · refine kV_ck ?_
      refine kV_ck ?_
      refine kV_ck ?_
      refine kV_ck ?_
      exact kV_to (keep_wI rfl keep_r) (ih v0 (rI μ 32 v0 (ix v2)) (v2 + 1) (wI μ 31 v0 (ix v2) ((rI μ 31 v0 (ix v2)) + (v1 - (rI μ 32 v0 (ix v2))))))
theorem X4_runDown_kp (a0 : Nat) (μ : sM) : kV pM μ (X4_runDown a0 μ) := by
  unfold X4_runDown
  exact kV_to (keep_wL rfl keep_r) (X4_runDown_L21_kp fuN a0 (rI μ 5 a0 0) 0 (wL μ 34 a0 4 ((rL μ 34 a0 4) + (Int32.toInt64 (rI μ 5 a0 0)))))
/-! ClockRiver$River.runUp -/
theorem X4_runUp_L30_kp : ∀ (n : Nat) (v0 : Nat) (v1 : Int32) (v2 : Int32) (μ : sM), kV pM μ (X4_runUp_L30 n v0 v1 v2 μ) := by
  intro n
  induction n with
  | zero =>
    intros
    exact kV_none
  | succ n ih =>
    intro v0 v1 v2 μ
    unfold X4_runUp_L30
    refine kV_ite ?_ ?_
    · exact kV_some (keep_wL rfl keep_r)
    · refine kV_ck ?_
      refine kV_ck ?_
      refine kV_ck ?_
      refine kV_ck ?_
      exact kV_to (keep_wI rfl keep_r) (ih v0 (rI μ 32 v0 (ix v2)) (v2 + (-1)) (wI μ 31 v0 (ix v2) ((rI μ 31 v0 (ix v2)) + (v1 - (rI μ 32 v0 (ix v2))))))
theorem X4_runUp_kp (a0 : Nat) (μ : sM) : kV pM μ (X4_runUp a0 μ) := by
  unfold X4_runUp
  exact kV_to (keep_wL rfl keep_r) (X4_runUp_L30_kp fuN a0 (-(rI μ 5 a0 0)) ((rI μ 4 a0 0) - 1) (wL μ 34 a0 1 ((rL μ 34 a0 1) - (Int32.toInt64 (rI μ 5 a0 0)))))
/-! ClockRiver$River.slacken -/
theorem X4_slacken_J54_kp (v0 : Nat) (s0 : Int32) (s1 : Nat) (μ : sM) : kV pM μ (X4_slacken_J54 v0 s0 s1 μ) := by
  unfold X4_slacken_J54
  exact kV_some (keep_wI rfl (keep_wI rfl keep_r))
theorem X4_slacken_J22_kp (v0 : Nat) (s0 : Int32) (μ : sM) : kV pM μ (X4_slacken_J22 v0 s0 μ) := by
  unfold X4_slacken_J22
  refine kV_ite ?_ ?_
  · exact kV_to keep_r (X4_slacken_J54_kp v0 (imn 0 ((rI μ 5 v0 0) + s0)) v0 μ)
  · exact kV_to keep_r (X4_slacken_J54_kp v0 (imx 0 ((rI μ 5 v0 0) - s0)) v0 μ)
theorem X4_slacken_kp (a0 : Nat) (μ : sM) : kV pM μ (X4_slacken a0 μ) := by
  unfold X4_slacken
  refine kV_ite ?_ ?_
  · exact kV_to keep_r (X4_slacken_J22_kp a0 (rI μ 5 a0 1) μ)
  · exact kV_to keep_r (X4_slacken_J22_kp a0 (((rI μ 5 a0 1) + 1) / 2) μ)
/-! ClockRiver$River.passHour -/
theorem X4_passHour_J65_kp (v0 : Nat) (μ : sM) : kI pM μ (X4_passHour_J65 v0 μ) := by
  unfold X4_passHour_J65
  refine kI_bI keep_r (X3_spill_kp v0 μ) (fun x1 μ2 h_μ2 => ?_)
  refine kI_bI (keep_wL rfl h_μ2) (X2_grind_32_kp v0 v0 (wL μ2 34 v0 3 ((rL μ 34 v0 3) + (Int32.toInt64 x1)))) (fun x3 μ4 h_μ4 => ?_)
  refine kI_bV h_μ4 (X4_slacken_kp v0 μ4) (fun μ6 h_μ6 => ?_)
  exact kI_some (keep_wI rfl h_μ6)
theorem X4_passHour_J25_kp (v0 : Nat) (μ : sM) : kI pM μ (X4_passHour_J25 v0 μ) := by
  unfold X4_passHour_J25
  refine kI_ite ?_ ?_
  · exact kI_to keep_r (X4_passHour_J65_kp v0 μ)
  · refine kI_bV keep_r (X3_addEach_kp v0 (rI μ 5 v0 2) μ) (fun μ2 h_μ2 => ?_)
    exact kI_to (keep_wL rfl h_μ2) (X4_passHour_J65_kp v0 (wL μ2 34 v0 5 ((rL μ2 34 v0 5) + (Int32.toInt64 ((rI μ2 5 v0 2) * (rI μ2 4 v0 0))))))
theorem X4_passHour_kp (a0 : Nat) (μ : sM) : kI pM μ (X4_passHour a0 μ) := by
  unfold X4_passHour
  refine kI_bV keep_r (X3_letPass_kp a0 μ) (fun μ2 h_μ2 => ?_)
  refine kI_ite ?_ ?_
  · refine kI_bV h_μ2 (X4_runUp_kp a0 μ2) (fun μ4 h_μ4 => ?_)
    exact kI_to h_μ4 (X4_passHour_J25_kp a0 μ4)
  · refine kI_bV h_μ2 (X4_runDown_kp a0 μ2) (fun μ6 h_μ6 => ?_)
    exact kI_to h_μ6 (X4_passHour_J25_kp a0 μ6)
/-! ClockRiver$River.passHours -/
theorem X4_passHours_L4_kp : ∀ (n : Nat) (v0 : Nat) (v1 : Int32) (v2 : Int32) (v3 : Int32) (μ : sM), kI pM μ (X4_passHours_L4 n v0 v1 v2 v3 μ) := by
  intro n
  induction n with
  | zero =>
    intros
    exact kI_none
  | succ n ih =>
    intro v0 v1 v2 v3 μ
    unfold X4_passHours_L4
    refine kI_ite ?_ ?_
    · exact kI_some keep_r
    · refine kI_bI keep_r (X4_passHour_kp v0 μ) (fun x1 μ2 h_μ2 => ?_)
      exact kI_to h_μ2 (ih v0 v1 (v2 + x1) (v3 + 1) μ2)
theorem X4_passHours_kp (a0 : Nat) (a1 : Int32) (μ : sM) : kI pM μ (X4_passHours a0 a1 μ) := by
  unfold X4_passHours
  exact kI_to keep_r (X4_passHours_L4_kp fuN a0 a1 0 0 μ)
/-! ClockRiver$River.isLawDay -/
theorem X4_isLawDay_kp (a0 : Nat) (μ : sM) : kI pM μ (X4_isLawDay a0 μ) := by
  unfold X4_isLawDay
  refine kI_ite ?_ ?_
  · exact kI_some keep_r
  · exact kI_some keep_r
/-! ClockRiver$River.letWind -/
theorem X4_letWind_J40_kp (v0 : Nat) (v1 : Int32) (s0 : Int32) (s1 : Nat) (μ : sM) : kV pM μ (X4_letWind_J40 v0 v1 s0 s1 μ) := by
  unfold X4_letWind_J40
  refine kV_bV (keep_wI rfl keep_r) (X10_pay_kp v0 v1 (wI μ 5 s1 0 s0)) (fun μ2 h_μ2 => ?_)
  exact kV_some h_μ2
theorem X4_letWind_kp (a0 : Nat) (a1 : Int32) (a2 : Int32) (μ : sM) : kV pM μ (X4_letWind a0 a1 a2 μ) := by
  unfold X4_letWind
  refine kV_ck ?_
  refine kV_ite ?_ ?_
  · exact kV_to keep_r (X4_letWind_J40_kp a0 a1 (imn 60 ((rI μ 5 a0 0) + (rI μ 51 a0 (ix a1)))) a0 μ)
  · exact kV_to keep_r (X4_letWind_J40_kp a0 a1 (imx (-60) ((rI μ 5 a0 0) - (rI μ 51 a0 (ix a1)))) a0 μ)
