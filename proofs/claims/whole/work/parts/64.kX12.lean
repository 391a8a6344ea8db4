/-! ClockRiverModel.reach -/
theorem X12_reach_kp (a1 : Int32) (a2 : Int32) (μ : sM) : kI pX μ (X12_reach a1 a2 μ) := by
  unfold X12_reach
  refine kI_bI (keep_wI rfl (keep_wI rfl keep_r)) (X12_isReachAt_kp a1 (wI (wI μ 13 0 1 0) 13 0 0 0)) (fun x1 μ2 h_μ2 => ?_)
  refine kI_ite ?_ ?_
  · refine kI_bI h_μ2 (X12_refuse_kp 2 μ2) (fun x11 μ12 h_μ12 => ?_)
    exact kI_some h_μ12
  · refine kI_bI h_μ2 (X12_isIn_kp (Int32.toInt64 a2) 0 4 μ2) (fun x3 μ4 h_μ4 => ?_)
    refine kI_ite ?_ ?_
    · refine kI_bI h_μ4 (X12_refuse_kp 5 μ4) (fun x9 μ10 h_μ10 => ?_)
      exact kI_some h_μ10
    · refine kI_ite ?_ ?_
      · refine kI_ite ?_ ?_
        · refine kI_bI h_μ4 (X12_passOf_kp a1 μ4) (fun x7 μ8 h_μ8 => ?_)
          exact kI_some h_μ8
        · refine kI_bI h_μ4 (X12_millsAt_kp a1 μ4) (fun x5 μ6 h_μ6 => ?_)
          exact kI_some h_μ6
      · refine kI_ck ?_
        exact kI_some h_μ4
/-! ClockRiverModel.isMillAt -/
theorem X12_isMillAt_kp (a1 : Int32) (μ : sM) : kI pX μ (X12_isMillAt a1 μ) := by
  unfold X12_isMillAt
  refine kI_bI keep_r (X12_isIn_kp (Int32.toInt64 a1) 0 (Int32.toInt64 ((rI μ 61 0 1) - 1)) μ) (fun x1 μ2 h_μ2 => ?_)
  refine kI_ck ?_
  exact kI_some h_μ2
/-! ClockRiverModel.mill -/
theorem X12_mill_kp (a1 : Int32) (a2 : Int32) (μ : sM) : kI pX μ (X12_mill a1 a2 μ) := by
  unfold X12_mill
  refine kI_bI (keep_wI rfl (keep_wI rfl keep_r)) (X12_isMillAt_kp a1 (wI (wI μ 13 0 1 0) 13 0 0 0)) (fun x1 μ2 h_μ2 => ?_)
  refine kI_ite ?_ ?_
  · refine kI_bI h_μ2 (X12_refuse_kp 2 μ2) (fun x7 μ8 h_μ8 => ?_)
    exact kI_some h_μ8
  · refine kI_bI h_μ2 (X12_isIn_kp (Int32.toInt64 a2) 0 2 μ2) (fun x3 μ4 h_μ4 => ?_)
    refine kI_ite ?_ ?_
    · refine kI_bI h_μ4 (X12_refuse_kp 5 μ4) (fun x5 μ6 h_μ6 => ?_)
      exact kI_some h_μ6
    · refine kI_ck ?_
      exact kI_some h_μ4
/-! ClockRiverModel.isWinderAt -/
theorem X12_isWinderAt_kp (a1 : Int32) (μ : sM) : kI pX μ (X12_isWinderAt a1 μ) := by
  unfold X12_isWinderAt
  refine kI_bI keep_r (X12_isIn_kp (Int32.toInt64 a1) 0 (Int32.toInt64 ((rI μ 61 0 2) - 1)) μ) (fun x1 μ2 h_μ2 => ?_)
  refine kI_ck ?_
  exact kI_some h_μ2
/-! ClockRiverModel.winder -/
theorem X12_winder_kp (a1 : Int32) (a2 : Int32) (μ : sM) : kI pX μ (X12_winder a1 a2 μ) := by
  unfold X12_winder
  refine kI_bI (keep_wI rfl (keep_wI rfl keep_r)) (X12_isWinderAt_kp a1 (wI (wI μ 13 0 1 0) 13 0 0 0)) (fun x1 μ2 h_μ2 => ?_)
  refine kI_ite ?_ ?_
  · refine kI_bI h_μ2 (X12_refuse_kp 2 μ2) (fun x7 μ8 h_μ8 => ?_)
    exact kI_some h_μ8
  · refine kI_bI h_μ2 (X12_isIn_kp (Int32.toInt64 a2) 0 3 μ2) (fun x3 μ4 h_μ4 => ?_)
    refine kI_ite ?_ ?_
    · refine kI_bI h_μ4 (X12_refuse_kp 5 μ4) (fun x5 μ6 h_μ6 => ?_)
      exact kI_some h_μ6
    · refine kI_ck ?_
      exact kI_some h_μ4
/-! ClockRiverModel.isTray -/
theorem X12_isTray_kp (a1 : Int32) (μ : sM) : kI pX μ (X12_isTray a1 μ) := by
  unfold X12_isTray
  refine kI_bI keep_r (X12_isIn_kp (Int32.toInt64 a1) 0 3 μ) (fun x1 μ2 h_μ2 => ?_)
  refine kI_ck ?_
  exact kI_some h_μ2
/-! ClockRiverModel.copyStored -/
theorem X12_copyStored_L62_kp : ∀ (n : Nat) (v1 : Int32) (v2 : Int32) (μ : sM), kI pX μ (X12_copyStored_L62 n v1 v2 μ) := by
  intro n
  induction n with
  | zero =>
    intros
    exact kI_none
  | succ n ih =>
    intro v1 v2 μ
    unfold X12_copyStored_L62
    refine kI_ite ?_ ?_
    · exact kI_some keep_r
    · refine kI_ck ?_
      refine kI_bI keep_r (X12_write_kp v1 v2 (Int32.toInt64 (rI μ 61 0 (ix (28 + v2)))) μ) (fun x1 μ2 h_μ2 => ?_)
      exact kI_to h_μ2 (ih v1 (v2 + 1) μ2)
theorem X12_copyStored_kp (a1 : Int32) (μ : sM) : kI pX μ (X12_copyStored a1 μ) := by
  unfold X12_copyStored
  refine kI_bI (keep_wI rfl (keep_wI rfl keep_r)) (X12_isTray_kp a1 (wI (wI μ 13 0 1 0) 13 0 0 0)) (fun x1 μ2 h_μ2 => ?_)
  refine kI_ite ?_ ?_
  · refine kI_bI h_μ2 (X12_refuse_kp 1 μ2) (fun x7 μ8 h_μ8 => ?_)
    exact kI_some h_μ8
  · refine kI_ck ?_
    refine kI_ite ?_ ?_
    · refine kI_ck ?_
      refine kI_ite ?_ ?_
      · exact kI_to h_μ2 (X12_copyStored_L62_kp fuN a1 0 μ2)
      · refine kI_bI h_μ2 (X12_refuse_kp 4 μ2) (fun x3 μ4 h_μ4 => ?_)
        exact kI_some h_μ4
    · refine kI_bI h_μ2 (X12_refuse_kp 3 μ2) (fun x5 μ6 h_μ6 => ?_)
      exact kI_some h_μ6
/-! ClockRiverModel.flowsDown -/
theorem X12_flowsDown_L21_kp : ∀ (n : Nat) (v1 : Int32) (v2 : Int32) (μ : sM), kV pX μ (X12_flowsDown_L21 n v1 v2 μ) := by
  intro n
  induction n with
  | zero =>
    intros
    exact kV_none
  | succ n ih =>
    intro v1 v2 μ
    unfold X12_flowsDown_L21
    refine kV_ite ?_ ?_
    · exact kV_some (keep_wI rfl keep_r)
    · refine kV_ck ?_
      refine kV_ck ?_
      refine kV_ck ?_
      refine kV_ck ?_
      exact kV_to (keep_wI rfl keep_r) (ih (rI μ 65 0 (ix v2)) (v2 + 1) (wI μ 61 0 (ix (28 + v2)) ((rI μ 61 0 (ix (28 + v2))) + (v1 - (rI μ 65 0 (ix v2))))))
theorem X12_flowsDown_kp (μ : sM) : kV pX μ (X12_flowsDown μ) := by
  unfold X12_flowsDown
  exact kV_to (keep_wI rfl keep_r) (X12_flowsDown_L21_kp fuN (rI μ 61 0 9) 0 (wI μ 61 0 14 ((rI μ 61 0 14) + (rI μ 61 0 9))))
/-! ClockRiverModel.flowsUp -/
theorem X12_flowsUp_L29_kp : ∀ (n : Nat) (v1 : Int32) (v2 : Int32) (μ : sM), kV pX μ (X12_flowsUp_L29 n v1 v2 μ) := by
  intro n
  induction n with
  | zero =>
    intros
    exact kV_none
  | succ n ih =>
    intro v1 v2 μ
    unfold X12_flowsUp_L29
    refine kV_ite ?_ ?_
    · exact kV_some (keep_wI rfl keep_r)
    · refine kV_ck ?_
      refine kV_ck ?_
      refine kV_ck ?_
      refine kV_ck ?_
      exact kV_to (keep_wI rfl keep_r) (ih (rI μ 65 0 (ix v2)) (v2 + (-1)) (wI μ 61 0 (ix (28 + v2)) ((rI μ 61 0 (ix (28 + v2))) + (v1 - (rI μ 65 0 (ix v2))))))
theorem X12_flowsUp_kp (μ : sM) : kV pX μ (X12_flowsUp μ) := by
  unfold X12_flowsUp
  exact kV_to (keep_wI rfl keep_r) (X12_flowsUp_L29_kp fuN (-(rI μ 61 0 9)) ((rI μ 61 0 0) - 1) (wI μ 61 0 11 ((rI μ 61 0 11) + (-(rI μ 61 0 9)))))
/-! ClockRiverModel.rainsAndFloods -/
theorem X12_rainsAndFloods_L2_kp : ∀ (n : Nat) (v1 : Int32) (μ : sM), kV pX μ (X12_rainsAndFloods_L2 n v1 μ) := by
  intro n
  induction n with
  | zero =>
    intros
    exact kV_none
  | succ n ih =>
    intro v1 μ
    unfold X12_rainsAndFloods_L2
    refine kV_ite ?_ ?_
    · exact kV_some keep_r
    · refine kV_ck ?_
      refine kV_ck ?_
      refine kV_ck ?_
      refine kV_ck ?_
      refine kV_ck ?_
      refine kV_ck ?_
      refine kV_ck ?_
      exact kV_to (keep_wI rfl (keep_wI rfl (keep_wI rfl (keep_wI rfl keep_r)))) (ih (v1 + 1) (wI (wI (wI (wI μ 61 0 15 ((rI μ 61 0 15) + ((rI μ 61 0 7) * (rI μ 61 0 4)))) 66 0 (ix v1) (imx 0 (((rI (wI μ 61 0 15 ((rI μ 61 0 15) + ((rI μ 61 0 7) * (rI μ 61 0 4)))) 61 0 (ix (28 + v1))) + ((rI μ 61 0 7) * (rI μ 61 0 4))) - (rI (wI μ 61 0 15 ((rI μ 61 0 15) + ((rI μ 61 0 7) * (rI μ 61 0 4)))) 61 0 (ix (16 + v1)))))) 61 0 (ix (28 + v1)) ((rI (wI μ 61 0 15 ((rI μ 61 0 15) + ((rI μ 61 0 7) * (rI μ 61 0 4)))) 61 0 (ix (28 + v1))) + (((rI μ 61 0 7) * (rI μ 61 0 4)) - (rI (wI (wI μ 61 0 15 ((rI μ 61 0 15) + ((rI μ 61 0 7) * (rI μ 61 0 4)))) 66 0 (ix v1) (imx 0 (((rI (wI μ 61 0 15 ((rI μ 61 0 15) + ((rI μ 61 0 7) * (rI μ 61 0 4)))) 61 0 (ix (28 + v1))) + ((rI μ 61 0 7) * (rI μ 61 0 4))) - (rI (wI μ 61 0 15 ((rI μ 61 0 15) + ((rI μ 61 0 7) * (rI μ 61 0 4)))) 61 0 (ix (16 + v1)))))) 66 0 (ix v1))))) 61 0 13 ((rI (wI (wI (wI μ 61 0 15 ((rI μ 61 0 15) + ((rI μ 61 0 7) * (rI μ 61 0 4)))) 66 0 (ix v1) (imx 0 (((rI (wI μ 61 0 15 ((rI μ 61 0 15) + ((rI μ 61 0 7) * (rI μ 61 0 4)))) 61 0 (ix (28 + v1))) + ((rI μ 61 0 7) * (rI μ 61 0 4))) - (rI (wI μ 61 0 15 ((rI μ 61 0 15) + ((rI μ 61 0 7) * (rI μ 61 0 4)))) 61 0 (ix (16 + v1)))))) 61 0 (ix (28 + v1)) ((rI (wI μ 61 0 15 ((rI μ 61 0 15) + ((rI μ 61 0 7) * (rI μ 61 0 4)))) 61 0 (ix (28 + v1))) + (((rI μ 61 0 7) * (rI μ 61 0 4)) - (rI (wI (wI μ 61 0 15 ((rI μ 61 0 15) + ((rI μ 61 0 7) * (rI μ 61 0 4)))) 66 0 (ix v1) (imx 0 (((rI (wI μ 61 0 15 ((rI μ 61 0 15) + ((rI μ 61 0 7) * (rI μ 61 0 4)))) 61 0 (ix (28 + v1))) + ((rI μ 61 0 7) * (rI μ 61 0 4))) - (rI (wI μ 61 0 15 ((rI μ 61 0 15) + ((rI μ 61 0 7) * (rI μ 61 0 4)))) 61 0 (ix (16 + v1)))))) 66 0 (ix v1))))) 61 0 13) + (rI (wI (wI μ 61 0 15 ((rI μ 61 0 15) + ((rI μ 61 0 7) * (rI μ 61 0 4)))) 66 0 (ix v1) (imx 0 (((rI (wI μ 61 0 15 ((rI μ 61 0 15) + ((rI μ 61 0 7) * (rI μ 61 0 4)))) 61 0 (ix (28 + v1))) + ((rI μ 61 0 7) * (rI μ 61 0 4))) - (rI (wI μ 61 0 15 ((rI μ 61 0 15) + ((rI μ 61 0 7) * (rI μ 61 0 4)))) 61 0 (ix (16 + v1)))))) 66 0 (ix v1)))))
theorem X12_rainsAndFloods_kp (μ : sM) : kV pX μ (X12_rainsAndFloods μ) := by
  unfold X12_rainsAndFloods
  exact kV_to keep_r (X12_rainsAndFloods_L2_kp fuN 0 μ)
/-! ClockRiverModel.slackNow -/
theorem X12_slackNow_kp (a1 : Int32) (μ : sM) : kI pX μ (X12_slackNow a1 μ) := by
  unfold X12_slackNow
  refine kI_ite ?_ ?_
  · exact kI_some keep_r
  · exact kI_some keep_r
/-! ClockRiverModel.slackened -/
theorem X12_slackened_kp (a0 : Int32) (a1 : Int32) (μ : sM) : kI pX μ (X12_slackened a0 a1 μ) := by
  unfold X12_slackened
  refine kI_ite ?_ ?_
  · exact kI_some keep_r
  · exact kI_some keep_r
/-! ClockRiverModel.goesHour -/
theorem X12_goesHour_J113_kp {k58 : Int32 → Int32 → sM → Option (Int32 × sM)} (hk58 : ∀ (v1 : Int32) (v2 : Int32) (μ : sM), kI pX μ (k58 v1 v2 μ)) (v1 : Int32) (v2 : Int32) (μ : sM) : kI pX μ (X12_goesHour_J113 k58 v1 v2 μ) := by
  unfold X12_goesHour_J113
  exact kI_to keep_r (hk58 v1 (v2 + 1) μ)
theorem X12_goesHour_L58_kp : ∀ (n : Nat) (v1 : Int32) (v2 : Int32) (μ : sM), kI pX μ (X12_goesHour_L58 n v1 v2 μ) := by
  intro n
  induction n with
  | zero =>
    intros
    exact kI_none
  | succ n ih =>
    intro v1 v2 μ
    unfold X12_goesHour_L58
    refine kI_ite ?_ ?_
    · refine kI_bI keep_r (X12_slackNow_kp (rI μ 61 0 8) μ) (fun x1 μ2 h_μ2 => ?_)
      refine kI_bI h_μ2 (X12_slackened_kp (rI μ 61 0 9) x1 μ2) (fun x3 μ4 h_μ4 => ?_)
      exact kI_some (keep_wI rfl (keep_wI rfl (keep_wI rfl h_μ4)))
    · refine kI_ck ?_
      refine kI_ck ?_
      refine kI_ck ?_
      refine kI_ite ?_ ?_
      · refine kI_ck ?_
        refine kI_ck ?_
        exact kI_to (keep_wI rfl keep_r) (X12_goesHour_J113_kp ih (v1 + 1) v2 (wI μ 61 0 (ix (46 + v2)) ((rI μ 61 0 (ix (46 + v2))) + 1)))
      · exact kI_to keep_r (X12_goesHour_J113_kp ih v1 v2 μ)
theorem X12_goesHour_J50_kp (μ : sM) : kI pX μ (X12_goesHour_J50 μ) := by
  unfold X12_goesHour_J50
  refine kI_bV keep_r (X12_rainsAndFloods_kp μ) (fun μ2 h_μ2 => ?_)
  exact kI_to h_μ2 (X12_goesHour_L58_kp fuN 0 0 μ2)
theorem X12_goesHour_L2_kp : ∀ (n : Nat) (v1 : Int32) (μ : sM), kI pX μ (X12_goesHour_L2 n v1 μ) := by
  intro n
  induction n with
  | zero =>
    intros
    exact kI_none
  | succ n ih =>
    intro v1 μ
    unfold X12_goesHour_L2
    refine kI_ite ?_ ?_
    · refine kI_ite ?_ ?_
      · refine kI_bV keep_r (X12_flowsUp_kp μ) (fun μ2 h_μ2 => ?_)
        exact kI_to h_μ2 (X12_goesHour_J50_kp μ2)
      · refine kI_bV keep_r (X12_flowsDown_kp μ) (fun μ4 h_μ4 => ?_)
        exact kI_to h_μ4 (X12_goesHour_J50_kp μ4)
    · refine kI_bI keep_r (X12_passOf_kp v1 μ) (fun x5 μ6 h_μ6 => ?_)
      refine kI_ck ?_
      exact kI_to (keep_wI rfl h_μ6) (ih (v1 + 1) (wI μ6 65 0 (ix v1) x5))
theorem X12_goesHour_kp (μ : sM) : kI pX μ (X12_goesHour μ) := by
  unfold X12_goesHour
  exact kI_to keep_r (X12_goesHour_L2_kp fuN 0 μ)
/-! ClockRiverModel.hour -/
theorem X12_hour_L54_kp : ∀ (n : Nat) (v1 : Int32) (v2 : Int32) (v3 : Int32) (μ : sM), kI pX μ (X12_hour_L54 n v1 v2 v3 μ) := by
  intro n
  induction n with
  | zero =>
    intros
    exact kI_none
  | succ n ih =>
    intro v1 v2 v3 μ
    unfold X12_hour_L54
    refine kI_ite ?_ ?_
    · exact kI_some keep_r
    · refine kI_bI keep_r (X12_goesHour_kp μ) (fun x1 μ2 h_μ2 => ?_)
      exact kI_to h_μ2 (ih v1 (v2 + x1) (v3 + 1) μ2)
theorem X12_hour_kp (a1 : Int32) (μ : sM) : kI pX μ (X12_hour a1 μ) := by
  unfold X12_hour
  refine kI_bI (keep_wI rfl (keep_wI rfl keep_r)) (X12_isIn_kp (Int32.toInt64 a1) 1 168 (wI (wI μ 13 0 1 0) 13 0 0 0)) (fun x1 μ2 h_μ2 => ?_)
  refine kI_ite ?_ ?_
  · refine kI_bI h_μ2 (X12_refuse_kp 5 μ2) (fun x5 μ6 h_μ6 => ?_)
    exact kI_some h_μ6
  · refine kI_ite ?_ ?_
    · exact kI_to h_μ2 (X12_hour_L54_kp fuN a1 0 0 μ2)
    · refine kI_bI h_μ2 (X12_refuse_kp 7 μ2) (fun x3 μ4 h_μ4 => ?_)
      exact kI_some h_μ4
/-! ClockRiverModel.isSeventh -/
theorem X12_isSeventh_kp (μ : sM) : kI pX μ (X12_isSeventh μ) := by
  unfold X12_isSeventh
  refine kI_bI keep_r (X12_day_kp μ) (fun x1 μ2 h_μ2 => ?_)
  refine kI_ite ?_ ?_
  · exact kI_some h_μ2
  · exact kI_some h_μ2
/-! ClockRiverModel.turnsBy -/
theorem X12_turnsBy_kp (a1 : Int32) (μ : sM) : kV pX μ (X12_turnsBy a1 μ) := by
  unfold X12_turnsBy
  exact kV_some (keep_wI rfl keep_r)
/-! ClockRiverModel.winds -/
theorem X12_winds_J36_kp (v1 : Int32) (s0 : Int32) (μ : sM) : kI pX μ (X12_winds_J36 v1 s0 μ) := by
  unfold X12_winds_J36
  refine kI_bV keep_r (X12_turnsBy_kp s0 μ) (fun μ2 h_μ2 => ?_)
  refine kI_ck ?_
  refine kI_ck ?_
  refine kI_ck ?_
  refine kI_ck ?_
  refine kI_ck ?_
  exact kI_some (keep_wI rfl (keep_wI rfl h_μ2))
theorem X12_winds_kp (a1 : Int32) (a2 : Int32) (μ : sM) : kI pX μ (X12_winds a1 a2 μ) := by
  unfold X12_winds
  refine kI_bI keep_r (X12_isSeventh_kp μ) (fun x1 μ2 h_μ2 => ?_)
  refine kI_ite ?_ ?_
  · refine kI_ite ?_ ?_
    · refine kI_ck ?_
      exact kI_to h_μ2 (X12_winds_J36_kp a1 (rI μ2 61 0 (ix (52 + a1))) μ2)
    · refine kI_ck ?_
      exact kI_to h_μ2 (X12_winds_J36_kp a1 (-(rI μ2 61 0 (ix (52 + a1)))) μ2)
  · exact kI_some h_μ2
/-! ClockRiverModel.wind -/
theorem X12_wind_kp (a1 : Int32) (a2 : Int32) (μ : sM) : kI pX μ (X12_wind a1 a2 μ) := by
  unfold X12_wind
  refine kI_bI (keep_wI rfl (keep_wI rfl keep_r)) (X12_isWinderAt_kp a1 (wI (wI μ 13 0 1 0) 13 0 0 0)) (fun x1 μ2 h_μ2 => ?_)
  refine kI_ite ?_ ?_
  · refine kI_bI h_μ2 (X12_refuse_kp 2 μ2) (fun x7 μ8 h_μ8 => ?_)
    exact kI_some h_μ8
  · refine kI_bI h_μ2 (X12_winds_kp a1 a2 μ2) (fun x3 μ4 h_μ4 => ?_)
    refine kI_ite ?_ ?_
    · refine kI_bI h_μ4 (X12_refuse_kp 9 μ4) (fun x5 μ6 h_μ6 => ?_)
      exact kI_some h_μ6
    · exact kI_some h_μ4
/-! ClockRiverModel.oil -/
theorem X12_oil_kp (μ : sM) : kI pX μ (X12_oil μ) := by
  unfold X12_oil
  exact kI_some (keep_wI rfl (keep_wI rfl (keep_wI rfl keep_r)))
/-! ClockRiverModel.becomes -/
theorem X12_becomes_kp (a1 : Int32) (a2 : Int32) (μ : sM) : kI pX μ (X12_becomes a1 a2 μ) := by
  unfold X12_becomes
  refine kI_ck ?_
  refine kI_ite ?_ ?_
  · exact kI_some keep_r
  · refine kI_ck ?_
    exact kI_some (keep_wI rfl keep_r)
/-! ClockRiverModel.gate -/
theorem X12_gate_kp (a1 : Int32) (a2 : Int32) (μ : sM) : kI pX μ (X12_gate a1 a2 μ) := by
  unfold X12_gate
  refine kI_bI (keep_wI rfl (keep_wI rfl keep_r)) (X12_isReachAt_kp a1 (wI (wI μ 13 0 1 0) 13 0 0 0)) (fun x1 μ2 h_μ2 => ?_)
  refine kI_ite ?_ ?_
  · refine kI_bI h_μ2 (X12_refuse_kp 2 μ2) (fun x11 μ12 h_μ12 => ?_)
    exact kI_some h_μ12
  · refine kI_bI h_μ2 (X12_isIn_kp (Int32.toInt64 a2) 0 99 μ2) (fun x3 μ4 h_μ4 => ?_)
    refine kI_ite ?_ ?_
    · refine kI_bI h_μ4 (X12_refuse_kp 5 μ4) (fun x9 μ10 h_μ10 => ?_)
      exact kI_some h_μ10
    · refine kI_ck ?_
      refine kI_bI h_μ4 (X12_becomes_kp (22 + a1) a2 μ4) (fun x5 μ6 h_μ6 => ?_)
      refine kI_ite ?_ ?_
      · refine kI_bI h_μ6 (X12_refuse_kp 9 μ6) (fun x7 μ8 h_μ8 => ?_)
        exact kI_some h_μ8
      · exact kI_some h_μ6
/-! ClockRiverModel.rain -/
theorem X12_rain_J22_kp (s0 : Int32) (s1 : Int32) (μ : sM) : kI pX μ (X12_rain_J22 s0 s1 μ) := by
  unfold X12_rain_J22
  refine kI_bI keep_r (X12_becomes_kp s1 s0 μ) (fun x1 μ2 h_μ2 => ?_)
  refine kI_ite ?_ ?_
  · refine kI_bI h_μ2 (X12_no_kp 9 μ2) (fun x3 μ4 h_μ4 => ?_)
    refine kI_ite ?_ ?_
    · exact kI_some h_μ4
    · exact kI_some h_μ4
  · exact kI_some h_μ2
theorem X12_rain_kp (a1 : Int32) (μ : sM) : kI pX μ (X12_rain a1 μ) := by
  unfold X12_rain
  refine kI_ite ?_ ?_
  · exact kI_to (keep_wI rfl (keep_wI rfl keep_r)) (X12_rain_J22_kp 0 7 (wI (wI μ 13 0 1 0) 13 0 0 0))
  · exact kI_to (keep_wI rfl (keep_wI rfl keep_r)) (X12_rain_J22_kp 1 7 (wI (wI μ 13 0 1 0) 13 0 0 0))
/-! ClockRiverModel.bring -/
theorem X12_bring_J42_kp (μ : sM) : kI pX μ (X12_bring_J42 μ) := by
  unfold X12_bring_J42
  refine kI_bI keep_r (X12_refuse_kp 5 μ) (fun x1 μ2 h_μ2 => ?_)
  exact kI_some h_μ2
theorem X12_bring_kp (a1 : Int32) (a2 : Int32) (μ : sM) : kI pX μ (X12_bring a1 a2 μ) := by
  unfold X12_bring
  refine kI_bI (keep_wI rfl (keep_wI rfl keep_r)) (X12_isReachAt_kp a1 (wI (wI μ 13 0 1 0) 13 0 0 0)) (fun x1 μ2 h_μ2 => ?_)
  refine kI_ite ?_ ?_
  · refine kI_bI h_μ2 (X12_refuse_kp 2 μ2) (fun x7 μ8 h_μ8 => ?_)
    exact kI_some h_μ8
  · refine kI_bI h_μ2 (X12_isIn_kp (Int32.toInt64 a2) (-999) 999 μ2) (fun x3 μ4 h_μ4 => ?_)
    refine kI_ite ?_ ?_
    · exact kI_to h_μ4 (X12_bring_J42_kp μ4)
    · refine kI_ite ?_ ?_
      · exact kI_to h_μ4 (X12_bring_J42_kp μ4)
      · refine kI_ck ?_
        refine kI_ite ?_ ?_
        · refine kI_ck ?_
          refine kI_ck ?_
          refine kI_ck ?_
          refine kI_ck ?_
          exact kI_some (keep_wI rfl (keep_wI rfl h_μ4))
        · refine kI_bI h_μ4 (X12_refuse_kp 9 μ4) (fun x5 μ6 h_μ6 => ?_)
          exact kI_some h_μ6
/-! ClockRiverModel.rule -/
theorem X12_rule_J58_kp (μ : sM) : kI pX μ (X12_rule_J58 μ) := by
  unfold X12_rule_J58
  refine kI_bI keep_r (X12_no_kp 5 μ) (fun x1 μ2 h_μ2 => ?_)
  refine kI_ck ?_
  exact kI_some h_μ2
theorem X12_rule_J52_kp (v1 : Int32) (v2 : Int32) (s0 : Int64) (s1 : Int64) (s2 : Int64) (μ : sM) : kI pX μ (X12_rule_J52 v1 v2 s0 s1 s2 μ) := by
  unfold X12_rule_J52
  refine kI_bI keep_r (X12_isIn_kp s2 s1 s0 μ) (fun x1 μ2 h_μ2 => ?_)
  refine kI_ite ?_ ?_
  · exact kI_to h_μ2 (X12_rule_J58_kp μ2)
  · refine kI_ck ?_
    exact kI_some (keep_wI rfl h_μ2)
theorem X12_rule_kp (a1 : Int32) (a2 : Int32) (μ : sM) : kI pX μ (X12_rule a1 a2 μ) := by
  unfold X12_rule
  refine kI_bI (keep_wI rfl (keep_wI rfl keep_r)) (X12_isIn_kp (Int32.toInt64 a1) 3 5 (wI (wI μ 13 0 1 0) 13 0 0 0)) (fun x1 μ2 h_μ2 => ?_)
  refine kI_ite ?_ ?_
  · exact kI_to h_μ2 (X12_rule_J58_kp μ2)
  · refine kI_ite ?_ ?_
    · exact kI_to h_μ2 (X12_rule_J52_kp a1 a2 9 0 (Int32.toInt64 a2) μ2)
    · refine kI_ite ?_ ?_
      · exact kI_to h_μ2 (X12_rule_J52_kp a1 a2 99 0 (Int32.toInt64 a2) μ2)
      · exact kI_to h_μ2 (X12_rule_J52_kp a1 a2 16 0 (Int32.toInt64 a2) μ2)
/-! ClockRiverModel.build -/
theorem X12_build_kp (a1 : Int32) (a2 : Int32) (μ : sM) : kI pX μ (X12_build a1 a2 μ) := by
  unfold X12_build
  refine kI_bI (keep_wI rfl (keep_wI rfl keep_r)) (X12_isReachAt_kp a1 (wI (wI μ 13 0 1 0) 13 0 0 0)) (fun x1 μ2 h_μ2 => ?_)
  refine kI_ite ?_ ?_
  · refine kI_bI h_μ2 (X12_refuse_kp 2 μ2) (fun x9 μ10 h_μ10 => ?_)
    exact kI_some h_μ10
  · refine kI_bI h_μ2 (X12_isIn_kp (Int32.toInt64 a2) 1 99 μ2) (fun x3 μ4 h_μ4 => ?_)
    refine kI_ite ?_ ?_
    · refine kI_bI h_μ4 (X12_refuse_kp 5 μ4) (fun x7 μ8 h_μ8 => ?_)
      exact kI_some h_μ8
    · refine kI_ite ?_ ?_
      · refine kI_bI h_μ4 (X12_refuse_kp 7 μ4) (fun x5 μ6 h_μ6 => ?_)
        exact kI_some h_μ6
      · refine kI_ck ?_
        refine kI_ck ?_
        refine kI_ck ?_
        refine kI_ck ?_
        exact kI_some (keep_wI rfl (keep_wL rfl (keep_wI rfl (keep_wI rfl (keep_wI rfl h_μ4)))))
/-! ClockRiverModel.train -/
theorem X12_train_kp (a1 : Int32) (a2 : Int32) (μ : sM) : kI pX μ (X12_train a1 a2 μ) := by
  unfold X12_train
  refine kI_bI (keep_wI rfl (keep_wI rfl keep_r)) (X12_isWinderAt_kp a1 (wI (wI μ 13 0 1 0) 13 0 0 0)) (fun x1 μ2 h_μ2 => ?_)
  refine kI_ite ?_ ?_
  · refine kI_bI h_μ2 (X12_no_kp 2 μ2) (fun x7 μ8 h_μ8 => ?_)
    refine kI_ck ?_
    exact kI_some h_μ8
  · refine kI_bI h_μ2 (X12_isIn_kp (Int32.toInt64 a2) 1 40 μ2) (fun x3 μ4 h_μ4 => ?_)
    refine kI_ite ?_ ?_
    · refine kI_bI h_μ4 (X12_no_kp 5 μ4) (fun x5 μ6 h_μ6 => ?_)
      refine kI_ck ?_
      exact kI_some h_μ6
    · refine kI_ck ?_
      exact kI_some (keep_wI rfl h_μ4)
/-! ClockRiverModel.isAhead -/
theorem X12_isAhead_kp (a0 : Int32) (μ : sM) : kI pX μ (X12_isAhead a0 μ) := by
  unfold X12_isAhead
  refine kI_bI keep_r (X12_isIn_kp (Int32.toInt64 a0) 0 500 μ) (fun x1 μ2 h_μ2 => ?_)
  refine kI_ck ?_
  exact kI_some h_μ2
/-! ClockRiverModel.puts -/
theorem X12_puts_L2_kp : ∀ (n : Nat) (v1 : Int32) (μ : sM), kV pX μ (X12_puts_L2 n v1 μ) := by
  intro n
  induction n with
  | zero =>
    intros
    exact kV_none
  | succ n ih =>
    intro v1 μ
    unfold X12_puts_L2
    refine kV_ite ?_ ?_
    · exact kV_some keep_r
    · refine kV_ck ?_
      refine kV_ck ?_
      exact kV_to (keep_wI rfl keep_r) (ih (v1 + 1) (wI μ 62 0 (ix v1) (rI μ 61 0 (ix v1))))
theorem X12_puts_kp (μ : sM) : kV pX μ (X12_puts μ) := by
  unfold X12_puts
  exact kV_to keep_r (X12_puts_L2_kp fuN 0 μ)
/-! ClockRiverModel.gives -/
theorem X12_gives_L2_kp : ∀ (n : Nat) (v1 : Int32) (μ : sM), kV pX μ (X12_gives_L2 n v1 μ) := by
  intro n
  induction n with
  | zero =>
    intros
    exact kV_none
  | succ n ih =>
    intro v1 μ
    unfold X12_gives_L2
    refine kV_ite ?_ ?_
    · exact kV_some keep_r
    · refine kV_ck ?_
      refine kV_ck ?_
      exact kV_to (keep_wI rfl keep_r) (ih (v1 + 1) (wI μ 61 0 (ix v1) (rI μ 62 0 (ix v1))))
theorem X12_gives_kp (μ : sM) : kV pX μ (X12_gives μ) := by
  unfold X12_gives
  exact kV_to keep_r (X12_gives_L2_kp fuN 0 μ)
/-! ClockRiverModel.cellIn -/
theorem X12_cellIn_L6_kp : ∀ (n : Nat) (v1 : Int32) (v2 : Int32) (v3 : Int32) (μ : sM), kI pX μ (X12_cellIn_L6 n v1 v2 v3 μ) := by
  intro n
  induction n with
  | zero =>
    intros
    exact kI_none
  | succ n ih =>
    intro v1 v2 v3 μ
    unfold X12_cellIn_L6
    refine kI_ite ?_ ?_
    · refine kI_ck ?_
      refine kI_bV keep_r (X12_gives_kp μ) (fun μ2 h_μ2 => ?_)
      exact kI_some h_μ2
    · refine kI_bI keep_r (X12_goesHour_kp μ) (fun x3 μ4 h_μ4 => ?_)
      exact kI_to h_μ4 (ih v1 v2 (v3 + 1) μ4)
theorem X12_cellIn_kp (a1 : Int32) (a2 : Int32) (μ : sM) : kI pX μ (X12_cellIn a1 a2 μ) := by
  unfold X12_cellIn
  refine kI_bV keep_r (X12_puts_kp μ) (fun μ2 h_μ2 => ?_)
  exact kI_to h_μ2 (X12_cellIn_L6_kp fuN a1 a2 0 μ2)
/-! ClockRiverModel.turnsIn -/
theorem X12_turnsIn_kp (a1 : Int32) (μ : sM) : kI pX μ (X12_turnsIn a1 μ) := by
  unfold X12_turnsIn
  refine kI_bI (keep_wI rfl (keep_wI rfl keep_r)) (X12_isAhead_kp a1 (wI (wI μ 13 0 1 0) 13 0 0 0)) (fun x1 μ2 h_μ2 => ?_)
  refine kI_ite ?_ ?_
  · refine kI_bI h_μ2 (X12_refuse_kp 5 μ2) (fun x3 μ4 h_μ4 => ?_)
    exact kI_some h_μ4
  · refine kI_bI h_μ2 (X12_cellIn_kp 9 a1 μ2) (fun x5 μ6 h_μ6 => ?_)
    exact kI_some h_μ6
/-! ClockRiverModel.storedIn -/
theorem X12_storedIn_kp (a1 : Int32) (a2 : Int32) (μ : sM) : kI pX μ (X12_storedIn a1 a2 μ) := by
  unfold X12_storedIn
  refine kI_bI (keep_wI rfl (keep_wI rfl keep_r)) (X12_isReachAt_kp a1 (wI (wI μ 13 0 1 0) 13 0 0 0)) (fun x1 μ2 h_μ2 => ?_)
  refine kI_ite ?_ ?_
  · refine kI_bI h_μ2 (X12_refuse_kp 2 μ2) (fun x9 μ10 h_μ10 => ?_)
    exact kI_some h_μ10
  · refine kI_bI h_μ2 (X12_isAhead_kp a2 μ2) (fun x3 μ4 h_μ4 => ?_)
    refine kI_ite ?_ ?_
    · refine kI_bI h_μ4 (X12_refuse_kp 5 μ4) (fun x5 μ6 h_μ6 => ?_)
      exact kI_some h_μ6
    · refine kI_bI h_μ4 (X12_cellIn_kp (28 + a1) a2 μ4) (fun x7 μ8 h_μ8 => ?_)
      exact kI_some h_μ8
/-! ClockRiverModel.groundIn -/
theorem X12_groundIn_kp (a1 : Int32) (a2 : Int32) (μ : sM) : kI pX μ (X12_groundIn a1 a2 μ) := by
  unfold X12_groundIn
  refine kI_bI (keep_wI rfl (keep_wI rfl keep_r)) (X12_isMillAt_kp a1 (wI (wI μ 13 0 1 0) 13 0 0 0)) (fun x1 μ2 h_μ2 => ?_)
  refine kI_ite ?_ ?_
  · refine kI_bI h_μ2 (X12_refuse_kp 2 μ2) (fun x9 μ10 h_μ10 => ?_)
    exact kI_some h_μ10
  · refine kI_bI h_μ2 (X12_isAhead_kp a2 μ2) (fun x3 μ4 h_μ4 => ?_)
    refine kI_ite ?_ ?_
    · refine kI_bI h_μ4 (X12_refuse_kp 5 μ4) (fun x5 μ6 h_μ6 => ?_)
      exact kI_some h_μ6
    · refine kI_bI h_μ4 (X12_cellIn_kp (46 + a1) a2 μ4) (fun x7 μ8 h_μ8 => ?_)
      refine kI_ck ?_
      exact kI_some h_μ8
/-! ClockRiverModel.seaIn -/
theorem X12_seaIn_kp (a1 : Int32) (μ : sM) : kL pX μ (X12_seaIn a1 μ) := by
  unfold X12_seaIn
  refine kL_bI (keep_wI rfl (keep_wI rfl keep_r)) (X12_isAhead_kp a1 (wI (wI μ 13 0 1 0) 13 0 0 0)) (fun x1 μ2 h_μ2 => ?_)
  refine kL_ite ?_ ?_
  · refine kL_bI h_μ2 (X12_refuse_kp 5 μ2) (fun x3 μ4 h_μ4 => ?_)
    exact kL_some h_μ4
  · refine kL_bI h_μ2 (X12_cellIn_kp 10 a1 μ2) (fun x5 μ6 h_μ6 => ?_)
    exact kL_some h_μ6
/-! ClockRiverModel.dryIn -/
theorem X12_dryIn_J57_kp {k32 : Int32 → Int32 → Int32 → sM → Option (Int32 × sM)} (hk32 : ∀ (v1 : Int32) (v2 : Int32) (v3 : Int32) (μ : sM), kI pX μ (k32 v1 v2 v3 μ)) (v1 : Int32) (v2 : Int32) (v3 : Int32) (μ : sM) : kI pX μ (X12_dryIn_J57 k32 v1 v2 v3 μ) := by
  unfold X12_dryIn_J57
  refine kI_bI keep_r (X12_goesHour_kp μ) (fun x1 μ2 h_μ2 => ?_)
  exact kI_to h_μ2 (hk32 v1 v2 (v3 + 1) μ2)
theorem X12_dryIn_J68_kp (v2 : Int32) (μ : sM) : kI pX μ (X12_dryIn_J68 v2 μ) := by
  unfold X12_dryIn_J68
  refine kI_bV keep_r (X12_gives_kp μ) (fun μ2 h_μ2 => ?_)
  refine kI_ite ?_ ?_
  · exact kI_some h_μ2
  · refine kI_bI h_μ2 (X12_refuse_kp 8 μ2) (fun x3 μ4 h_μ4 => ?_)
    exact kI_some h_μ4
theorem X12_dryIn_L32_kp : ∀ (n : Nat) (v1 : Int32) (v2 : Int32) (v3 : Int32) (μ : sM), kI pX μ (X12_dryIn_L32 n v1 v2 v3 μ) := by
  intro n
  induction n with
  | zero =>
    intros
    exact kI_none
  | succ n ih =>
    intro v1 v2 v3 μ
    unfold X12_dryIn_L32
    refine kI_ite ?_ ?_
    · exact kI_to keep_r (X12_dryIn_J68_kp v2 μ)
    · refine kI_ite ?_ ?_
      · exact kI_to keep_r (X12_dryIn_J68_kp v2 μ)
      · refine kI_ck ?_
        refine kI_ite ?_ ?_
        · exact kI_to keep_r (X12_dryIn_J57_kp ih v1 v3 v3 μ)
        · exact kI_to keep_r (X12_dryIn_J57_kp ih v1 v2 v3 μ)
theorem X12_dryIn_kp (a1 : Int32) (μ : sM) : kI pX μ (X12_dryIn a1 μ) := by
  unfold X12_dryIn
  refine kI_bI (keep_wI rfl (keep_wI rfl keep_r)) (X12_isReachAt_kp a1 (wI (wI μ 13 0 1 0) 13 0 0 0)) (fun x1 μ2 h_μ2 => ?_)
  refine kI_ite ?_ ?_
  · refine kI_bI h_μ2 (X12_refuse_kp 2 μ2) (fun x5 μ6 h_μ6 => ?_)
    exact kI_some h_μ6
  · refine kI_bV h_μ2 (X12_puts_kp μ2) (fun μ4 h_μ4 => ?_)
    exact kI_to h_μ4 (X12_dryIn_L32_kp fuN a1 (-1) 0 μ4)
/-! ClockRiverModel.floodIn -/
theorem X12_floodIn_J59_kp {k32 : Int32 → Int32 → Int32 → sM → Option (Int32 × sM)} (hk32 : ∀ (v1 : Int32) (v2 : Int32) (v3 : Int32) (μ : sM), kI pX μ (k32 v1 v2 v3 μ)) (v1 : Int32) (v2 : Int32) (v3 : Int32) (μ : sM) : kI pX μ (X12_floodIn_J59 k32 v1 v2 v3 μ) := by
  unfold X12_floodIn_J59
  exact kI_to keep_r (hk32 v1 v2 (v3 + 1) μ)
theorem X12_floodIn_J65_kp (v2 : Int32) (μ : sM) : kI pX μ (X12_floodIn_J65 v2 μ) := by
  unfold X12_floodIn_J65
  refine kI_bV keep_r (X12_gives_kp μ) (fun μ2 h_μ2 => ?_)
  refine kI_ite ?_ ?_
  · exact kI_some h_μ2
  · refine kI_bI h_μ2 (X12_refuse_kp 8 μ2) (fun x3 μ4 h_μ4 => ?_)
    exact kI_some h_μ4
theorem X12_floodIn_L32_kp : ∀ (n : Nat) (v1 : Int32) (v2 : Int32) (v3 : Int32) (μ : sM), kI pX μ (X12_floodIn_L32 n v1 v2 v3 μ) := by
  intro n
  induction n with
  | zero =>
    intros
    exact kI_none
  | succ n ih =>
    intro v1 v2 v3 μ
    unfold X12_floodIn_L32
    refine kI_ite ?_ ?_
    · exact kI_to keep_r (X12_floodIn_J65_kp v2 μ)
    · refine kI_ite ?_ ?_
      · exact kI_to keep_r (X12_floodIn_J65_kp v2 μ)
      · refine kI_bI keep_r (X12_goesHour_kp μ) (fun x1 μ2 h_μ2 => ?_)
        refine kI_ck ?_
        refine kI_ite ?_ ?_
        · exact kI_to h_μ2 (X12_floodIn_J59_kp ih v1 v2 v3 μ2)
        · exact kI_to h_μ2 (X12_floodIn_J59_kp ih v1 v3 v3 μ2)
theorem X12_floodIn_kp (a1 : Int32) (μ : sM) : kI pX μ (X12_floodIn a1 μ) := by
  unfold X12_floodIn
  refine kI_bI (keep_wI rfl (keep_wI rfl keep_r)) (X12_isReachAt_kp a1 (wI (wI μ 13 0 1 0) 13 0 0 0)) (fun x1 μ2 h_μ2 => ?_)
  refine kI_ite ?_ ?_
  · refine kI_bI h_μ2 (X12_refuse_kp 2 μ2) (fun x5 μ6 h_μ6 => ?_)
    exact kI_some h_μ6
  · refine kI_bV h_μ2 (X12_puts_kp μ2) (fun μ4 h_μ4 => ?_)
    exact kI_to h_μ4 (X12_floodIn_L32_kp fuN a1 (-1) 0 μ4)
/-! ClockRiverModel.stillIn -/
theorem X12_stillIn_L20_kp : ∀ (n : Nat) (v1 : Int32) (v2 : Int32) (μ : sM), kI pX μ (X12_stillIn_L20 n v1 v2 μ) := by
  intro n
  induction n with
  | zero =>
    intros
    exact kI_none
  | succ n ih =>
    intro v1 v2 μ
    unfold X12_stillIn_L20
    refine kI_ite ?_ ?_
    · refine kI_bI keep_r (X12_refuse_kp 8 μ) (fun x1 μ2 h_μ2 => ?_)
      exact kI_some h_μ2
    · refine kI_ite ?_ ?_
      · exact kI_some keep_r
      · refine kI_bI keep_r (X12_slackNow_kp ((rI μ 61 0 8) - v2) μ) (fun x3 μ4 h_μ4 => ?_)
        refine kI_bI h_μ4 (X12_slackened_kp v1 x3 μ4) (fun x5 μ6 h_μ6 => ?_)
        exact kI_to h_μ6 (ih x5 (v2 + 1) μ6)
theorem X12_stillIn_kp (μ : sM) : kI pX μ (X12_stillIn μ) := by
  unfold X12_stillIn
  exact kI_to (keep_wI rfl (keep_wI rfl keep_r)) (X12_stillIn_L20_kp fuN (rI μ 61 0 9) 0 (wI (wI μ 13 0 1 0) 13 0 0 0))
/-! ClockRiverModel.lawIn -/
theorem X12_lawIn_kp (μ : sM) : kI pX μ (X12_lawIn μ) := by
  unfold X12_lawIn
  refine kI_bI (keep_wI rfl (keep_wI rfl keep_r)) (X12_isSeventh_kp (wI (wI μ 13 0 1 0) 13 0 0 0)) (fun x1 μ2 h_μ2 => ?_)
  refine kI_ite ?_ ?_
  · exact kI_some h_μ2
  · exact kI_some h_μ2
/-! ClockRiverModel.enough -/
theorem X12_enough_J47_kp (μ : sM) : kI pX μ (X12_enough_J47 μ) := by
  unfold X12_enough_J47
  refine kI_bI keep_r (X12_refuse_kp 5 μ) (fun x1 μ2 h_μ2 => ?_)
  exact kI_some h_μ2
theorem X12_enough_J116_kp {k68 : Int32 → Int32 → Int32 → Int32 → Int32 → Int32 → sM → Option (Int32 × sM)} (hk68 : ∀ (v1 : Int32) (v2 : Int32) (v3 : Int32) (v4 : Int32) (v5 : Int32) (v6 : Int32) (μ : sM), kI pX μ (k68 v1 v2 v3 v4 v5 v6 μ)) (v1 : Int32) (v2 : Int32) (v3 : Int32) (v4 : Int32) (v5 : Int32) (v6 : Int32) (μ : sM) : kI pX μ (X12_enough_J116 k68 v1 v2 v3 v4 v5 v6 μ) := by
  unfold X12_enough_J116
  exact kI_to keep_r (hk68 v1 v2 v3 v4 v5 (v6 + 1) μ)
theorem X12_enough_J122_kp (v4 : Int32) (v5 : Int32) (μ : sM) : kI pX μ (X12_enough_J122 v4 v5 μ) := by
  unfold X12_enough_J122
  refine kI_ite ?_ ?_
  · exact kI_some (keep_wI rfl keep_r)
  · refine kI_bI (keep_wI rfl keep_r) (X12_refuse_kp 8 (wI μ 61 0 9 v4)) (fun x1 μ2 h_μ2 => ?_)
    exact kI_some h_μ2
theorem X12_enough_L68_kp : ∀ (n : Nat) (v1 : Int32) (v2 : Int32) (v3 : Int32) (v4 : Int32) (v5 : Int32) (v6 : Int32) (μ : sM), kI pX μ (X12_enough_L68 n v1 v2 v3 v4 v5 v6 μ) := by
  intro n
  induction n with
  | zero =>
    intros
    exact kI_none
  | succ n ih =>
    intro v1 v2 v3 v4 v5 v6 μ
    unfold X12_enough_L68
    refine kI_ite ?_ ?_
    · exact kI_to keep_r (X12_enough_J122_kp v4 v5 μ)
    · refine kI_ite ?_ ?_
      · exact kI_to keep_r (X12_enough_J122_kp v4 v5 μ)
      · refine kI_bI (keep_wI rfl keep_r) (X12_cellIn_kp (46 + v1) v2 (wI μ 61 0 9 v6)) (fun x1 μ2 h_μ2 => ?_)
        refine kI_ck ?_
        refine kI_ite ?_ ?_
        · exact kI_to h_μ2 (X12_enough_J116_kp ih v1 v2 v3 v4 v5 v6 μ2)
        · exact kI_to h_μ2 (X12_enough_J116_kp ih v1 v2 v3 v4 v6 v6 μ2)
theorem X12_enough_kp (a1 : Int32) (a2 : Int32) (a3 : Int32) (μ : sM) : kI pX μ (X12_enough a1 a2 a3 μ) := by
  unfold X12_enough
  refine kI_bI (keep_wI rfl (keep_wI rfl keep_r)) (X12_isMillAt_kp a1 (wI (wI μ 13 0 1 0) 13 0 0 0)) (fun x1 μ2 h_μ2 => ?_)
  refine kI_ite ?_ ?_
  · refine kI_bI h_μ2 (X12_refuse_kp 2 μ2) (fun x7 μ8 h_μ8 => ?_)
    exact kI_some h_μ8
  · refine kI_bI h_μ2 (X12_isIn_kp (Int32.toInt64 a2) 0 100 μ2) (fun x3 μ4 h_μ4 => ?_)
    refine kI_ite ?_ ?_
    · exact kI_to h_μ4 (X12_enough_J47_kp μ4)
    · refine kI_bI h_μ4 (X12_isIn_kp (Int32.toInt64 a3) 0 (Int32.toInt64 a2) μ4) (fun x5 μ6 h_μ6 => ?_)
      refine kI_ite ?_ ?_
      · exact kI_to h_μ6 (X12_enough_J47_kp μ6)
      · exact kI_to h_μ6 (X12_enough_L68_kp fuN a1 a2 a3 (rI μ6 61 0 9) (-1) 0 μ6)
/-! ClockRiverModel.whyNoGate -/
theorem X12_whyNoGate_kp (a1 : Int32) (a2 : Int32) (μ : sM) : kI pX μ (X12_whyNoGate a1 a2 μ) := by
  unfold X12_whyNoGate
  refine kI_bI keep_r (X12_isReachAt_kp a1 μ) (fun x1 μ2 h_μ2 => ?_)
  refine kI_ite ?_ ?_
  · exact kI_some h_μ2
  · refine kI_bI h_μ2 (X12_isIn_kp (Int32.toInt64 a2) 0 48 μ2) (fun x3 μ4 h_μ4 => ?_)
    refine kI_ite ?_ ?_
    · exact kI_some h_μ4
    · exact kI_some h_μ4
/-! ClockRiverModel.bestOf -/
theorem X12_bestOf_J84_kp {k14 : Int32 → Int32 → Int32 → Int32 → sM → Option (Int32 × sM)} (hk14 : ∀ (v1 : Int32) (v2 : Int32) (v3 : Int32) (v4 : Int32) (μ : sM), kI pX μ (k14 v1 v2 v3 v4 μ)) (v1 : Int32) (v2 : Int32) (v3 : Int32) (v4 : Int32) (μ : sM) : kI pX μ (X12_bestOf_J84 k14 v1 v2 v3 v4 μ) := by
  unfold X12_bestOf_J84
  exact kI_to keep_r (hk14 v1 v2 v3 (v4 + 1) μ)
theorem X12_bestOf_L38_kp {k14 : Int32 → Int32 → Int32 → Int32 → sM → Option (Int32 × sM)} (hk14 : ∀ (v1 : Int32) (v2 : Int32) (v3 : Int32) (v4 : Int32) (μ : sM), kI pX μ (k14 v1 v2 v3 v4 μ)) : ∀ (n : Nat) (v1 : Int32) (v2 : Int32) (v3 : Int32) (v4 : Int32) (v5 : Int32) (v6 : Int32) (μ : sM), kI pX μ (X12_bestOf_L38 k14 n v1 v2 v3 v4 v5 v6 μ) := by
  intro n
  induction n with
  | zero =>
    intros
    exact kI_none
  | succ n ih =>
    intro v1 v2 v3 v4 v5 v6 μ
    unfold X12_bestOf_L38
    refine kI_ite ?_ ?_
    · refine kI_bV keep_r (X12_gives_kp μ) (fun μ2 h_μ2 => ?_)
      refine kI_ite ?_ ?_
      · exact kI_to (keep_wI rfl h_μ2) (X12_bestOf_J84_kp hk14 v1 v2 v4 v4 (wI μ2 13 0 29 v5))
      · exact kI_to h_μ2 (X12_bestOf_J84_kp hk14 v1 v2 v3 v4 μ2)
    · refine kI_bI keep_r (X12_goesHour_kp μ) (fun x3 μ4 h_μ4 => ?_)
      exact kI_to h_μ4 (ih v1 v2 v3 v4 (v5 + x3) (v6 + 1) μ4)
theorem X12_bestOf_L14_kp : ∀ (n : Nat) (v1 : Int32) (v2 : Int32) (v3 : Int32) (v4 : Int32) (μ : sM), kI pX μ (X12_bestOf_L14 n v1 v2 v3 v4 μ) := by
  intro n
  induction n with
  | zero =>
    intros
    exact kI_none
  | succ n ih =>
    intro v1 v2 v3 v4 μ
    unfold X12_bestOf_L14
    refine kI_ite ?_ ?_
    · exact kI_some keep_r
    · refine kI_ck ?_
      exact kI_to (keep_wI rfl keep_r) (X12_bestOf_L38_kp ih fuN v1 v2 v3 v4 0 0 (wI μ 61 0 (ix (22 + v1)) v4))
theorem X12_bestOf_kp (a1 : Int32) (a2 : Int32) (μ : sM) : kI pX μ (X12_bestOf a1 a2 μ) := by
  unfold X12_bestOf
  refine kI_bV (keep_wI rfl keep_r) (X12_puts_kp (wI μ 13 0 29 (-1))) (fun μ2 h_μ2 => ?_)
  exact kI_to h_μ2 (X12_bestOf_L14_kp fuN a1 a2 0 0 μ2)
/-! ClockRiverModel.bestGate -/
theorem X12_bestGate_kp (a1 : Int32) (a2 : Int32) (μ : sM) : kI pX μ (X12_bestGate a1 a2 μ) := by
  unfold X12_bestGate
  refine kI_bI (keep_wI rfl keep_r) (X12_whyNoGate_kp a1 a2 (wI μ 13 0 1 0)) (fun x1 μ2 h_μ2 => ?_)
  refine kI_ite ?_ ?_
  · refine kI_bI (keep_wI rfl h_μ2) (X12_bestOf_kp a1 a2 (wI μ2 13 0 0 x1)) (fun x3 μ4 h_μ4 => ?_)
    exact kI_some h_μ4
  · exact kI_some (keep_wI rfl h_μ2)
/-! ClockRiverModel.bestGround -/
theorem X12_bestGround_kp (a1 : Int32) (a2 : Int32) (μ : sM) : kI pX μ (X12_bestGround a1 a2 μ) := by
  unfold X12_bestGround
  refine kI_bI (keep_wI rfl keep_r) (X12_whyNoGate_kp a1 a2 (wI μ 13 0 1 0)) (fun x1 μ2 h_μ2 => ?_)
  refine kI_ite ?_ ?_
  · refine kI_bI (keep_wI rfl h_μ2) (X12_bestOf_kp a1 a2 (wI μ2 13 0 0 x1)) (fun x3 μ4 h_μ4 => ?_)
    exact kI_some h_μ4
  · exact kI_some (keep_wI rfl h_μ2)
/-! ClockRiverModel.isHire -/
theorem X12_isHire_kp (a0 : Int32) (a1 : Int32) (μ : sM) : kI pX μ (X12_isHire a0 a1 μ) := by
  unfold X12_isHire
  refine kI_bI keep_r (X12_isIn_kp (Int32.toInt64 a0) 1 4 μ) (fun x1 μ2 h_μ2 => ?_)
  refine kI_ite ?_ ?_
  · exact kI_some h_μ2
  · refine kI_bI h_μ2 (X12_isIn_kp (Int32.toInt64 a1) 0 999 μ2) (fun x3 μ4 h_μ4 => ?_)
    refine kI_ite ?_ ?_
    · exact kI_some h_μ4
    · exact kI_some h_μ4
/-! ClockRiverModel.laysTurn -/
theorem X12_laysTurn_L2_kp : ∀ (n : Nat) (v1 : Int32) (v2 : Int32) (μ : sM), kV pX μ (X12_laysTurn_L2 n v1 v2 μ) := by
  intro n
  induction n with
  | zero =>
    intros
    exact kV_none
  | succ n ih =>
    intro v1 v2 μ
    unfold X12_laysTurn_L2
    refine kV_ite ?_ ?_
    · exact kV_some keep_r
    · refine kV_ck ?_
      refine kV_ck ?_
      exact kV_to (keep_wI rfl keep_r) (ih v1 (v2 + 1) (wI μ 67 0 (ix ((76 * v1) + v2)) (rI μ 61 0 (ix v2))))
theorem X12_laysTurn_kp (a1 : Int32) (μ : sM) : kV pX μ (X12_laysTurn a1 μ) := by
  unfold X12_laysTurn
  exact kV_to keep_r (X12_laysTurn_L2_kp fuN a1 0 μ)
/-! ClockRiverModel.takesTurn -/
theorem X12_takesTurn_L2_kp : ∀ (n : Nat) (v1 : Int32) (v2 : Int32) (μ : sM), kV pX μ (X12_takesTurn_L2 n v1 v2 μ) := by
  intro n
  induction n with
  | zero =>
    intros
    exact kV_none
  | succ n ih =>
    intro v1 v2 μ
    unfold X12_takesTurn_L2
    refine kV_ite ?_ ?_
    · exact kV_some keep_r
    · refine kV_ck ?_
      refine kV_ck ?_
      exact kV_to (keep_wI rfl keep_r) (ih v1 (v2 + 1) (wI μ 61 0 (ix v2) (rI μ 67 0 (ix ((76 * v1) + v2)))))
theorem X12_takesTurn_kp (a1 : Int32) (μ : sM) : kV pX μ (X12_takesTurn a1 μ) := by
  unfold X12_takesTurn
  exact kV_to keep_r (X12_takesTurn_L2_kp fuN a1 0 μ)
/-! ClockRiverModel.hires -/
theorem X12_hires_L35_kp {rec : Int32 → Int32 → Int32 → Int32 → sM → Option sM} (hrec : ∀ (a1 : Int32) (a2 : Int32) (a3 : Int32) (a4 : Int32) (μ : sM), kV pX μ (rec a1 a2 a3 a4 μ)) : ∀ (n : Nat) (v2 : Int32) (v5 : Int32) (μ : sM), kV pX μ (X12_hires_L35 rec n v2 v5 μ) := by
  intro n
  induction n with
  | zero =>
    intros
    exact kV_none
  | succ n ih =>
    intro v2 v5 μ
    unfold X12_hires_L35
    refine kV_ite ?_ ?_
    · exact kV_some keep_r
    · refine kV_ck ?_
      refine kV_ck ?_
      exact kV_to (keep_wI rfl keep_r) (ih v2 (v5 + 1) (wI μ 69 0 (ix v5) (rI μ 68 0 (ix v5))))
theorem X12_hires_J26_kp {rec : Int32 → Int32 → Int32 → Int32 → sM → Option sM} (hrec : ∀ (a1 : Int32) (a2 : Int32) (a3 : Int32) (a4 : Int32) (μ : sM), kV pX μ (rec a1 a2 a3 a4 μ)) (v2 : Int32) (v4 : Int32) (μ : sM) : kV pX μ (X12_hires_J26 rec v2 v4 μ) := by
  unfold X12_hires_J26
  exact kV_to (keep_wI rfl keep_r) (X12_hires_L35_kp hrec fuN v2 0 (wI μ 13 0 33 v4))
theorem X12_hires_J195_kp {rec : Int32 → Int32 → Int32 → Int32 → sM → Option sM} (hrec : ∀ (a1 : Int32) (a2 : Int32) (a3 : Int32) (a4 : Int32) (μ : sM), kV pX μ (rec a1 a2 a3 a4 μ)) {k70 : Int32 → Int32 → Int32 → Int32 → Int32 → sM → Option sM} (hk70 : ∀ (v1 : Int32) (v2 : Int32) (v3 : Int32) (v4 : Int32) (v5 : Int32) (μ : sM), kV pX μ (k70 v1 v2 v3 v4 v5 μ)) (v1 : Int32) (v2 : Int32) (v3 : Int32) (v4 : Int32) (v5 : Int32) (s0 : Int32) (s1 : Int32) (s2 : Int32) (s3 : Int32) (μ : sM) : kV pX μ (X12_hires_J195 rec k70 v1 v2 v3 v4 v5 s0 s1 s2 s3 μ) := by
  unfold X12_hires_J195
  refine kV_bV keep_r (hrec s3 s2 s1 s0 μ) (fun μ2 h_μ2 => ?_)
  refine kV_bV h_μ2 (X12_takesTurn_kp v1 μ2) (fun μ4 h_μ4 => ?_)
  exact kV_to h_μ4 (hk70 v1 v2 v3 v4 (v5 + 1) μ4)
theorem X12_hires_J162_kp {rec : Int32 → Int32 → Int32 → Int32 → sM → Option sM} (hrec : ∀ (a1 : Int32) (a2 : Int32) (a3 : Int32) (a4 : Int32) (μ : sM), kV pX μ (rec a1 a2 a3 a4 μ)) {k70 : Int32 → Int32 → Int32 → Int32 → Int32 → sM → Option sM} (hk70 : ∀ (v1 : Int32) (v2 : Int32) (v3 : Int32) (v4 : Int32) (v5 : Int32) (μ : sM), kV pX μ (k70 v1 v2 v3 v4 v5 μ)) (v1 : Int32) (v2 : Int32) (v3 : Int32) (v4 : Int32) (v5 : Int32) (v6 : Int32) (v7 : Int32) (s0 : Int32) (s1 : Int32) (μ : sM) : kV pX μ (X12_hires_J162 rec k70 v1 v2 v3 v4 v5 v6 v7 s0 s1 μ) := by
  unfold X12_hires_J162
  refine kV_ck ?_
  refine kV_ite ?_ ?_
  · refine kV_ck ?_
    exact kV_to (keep_wI rfl keep_r) (X12_hires_J195_kp hrec hk70 v1 v2 v3 v4 v5 (v4 + (rI μ 61 0 (ix (58 + v5)))) (v3 - v7) v2 (v1 + 1) (wI μ 68 0 (ix s1) s0))
  · exact kV_to (keep_wI rfl keep_r) (X12_hires_J195_kp hrec hk70 v1 v2 v3 v4 v5 v4 (v3 - v7) v2 (v1 + 1) (wI μ 68 0 (ix s1) s0))
theorem X12_hires_L124_kp {rec : Int32 → Int32 → Int32 → Int32 → sM → Option sM} (hrec : ∀ (a1 : Int32) (a2 : Int32) (a3 : Int32) (a4 : Int32) (μ : sM), kV pX μ (rec a1 a2 a3 a4 μ)) {k70 : Int32 → Int32 → Int32 → Int32 → Int32 → sM → Option sM} (hk70 : ∀ (v1 : Int32) (v2 : Int32) (v3 : Int32) (v4 : Int32) (v5 : Int32) (μ : sM), kV pX μ (k70 v1 v2 v3 v4 v5 μ)) : ∀ (n : Nat) (v1 : Int32) (v2 : Int32) (v3 : Int32) (v4 : Int32) (v5 : Int32) (v6 : Int32) (v7 : Int32) (v8 : Int32) (μ : sM), kV pX μ (X12_hires_L124 rec k70 n v1 v2 v3 v4 v5 v6 v7 v8 μ) := by
  intro n
  induction n with
  | zero =>
    intros
    exact kV_none
  | succ n ih =>
    intro v1 v2 v3 v4 v5 v6 v7 v8 μ
    unfold X12_hires_L124
    refine kV_ite ?_ ?_
    · refine kV_ite ?_ ?_
      · exact kV_to keep_r (X12_hires_J162_kp hrec hk70 v1 v2 v3 v4 v5 v6 v7 v5 v1 μ)
      · exact kV_to keep_r (X12_hires_J162_kp hrec hk70 v1 v2 v3 v4 v5 v6 v7 6 v1 μ)
    · refine kV_bI keep_r (X12_goesHour_kp μ) (fun x1 μ2 h_μ2 => ?_)
      exact kV_to h_μ2 (ih v1 v2 v3 v4 v5 v6 (v7 + x1) (v8 + 1) μ2)
theorem X12_hires_J118_kp {rec : Int32 → Int32 → Int32 → Int32 → sM → Option sM} (hrec : ∀ (a1 : Int32) (a2 : Int32) (a3 : Int32) (a4 : Int32) (μ : sM), kV pX μ (rec a1 a2 a3 a4 μ)) {k70 : Int32 → Int32 → Int32 → Int32 → Int32 → sM → Option sM} (hk70 : ∀ (v1 : Int32) (v2 : Int32) (v3 : Int32) (v4 : Int32) (v5 : Int32) (μ : sM), kV pX μ (k70 v1 v2 v3 v4 v5 μ)) (v1 : Int32) (v2 : Int32) (v3 : Int32) (v4 : Int32) (v5 : Int32) (v6 : Int32) (μ : sM) : kV pX μ (X12_hires_J118 rec k70 v1 v2 v3 v4 v5 v6 μ) := by
  unfold X12_hires_J118
  exact kV_to keep_r (X12_hires_L124_kp hrec hk70 fuN v1 v2 v3 v4 v5 v6 0 0 μ)
theorem X12_hires_J97_kp {rec : Int32 → Int32 → Int32 → Int32 → sM → Option sM} (hrec : ∀ (a1 : Int32) (a2 : Int32) (a3 : Int32) (a4 : Int32) (μ : sM), kV pX μ (rec a1 a2 a3 a4 μ)) {k70 : Int32 → Int32 → Int32 → Int32 → Int32 → sM → Option sM} (hk70 : ∀ (v1 : Int32) (v2 : Int32) (v3 : Int32) (v4 : Int32) (v5 : Int32) (μ : sM), kV pX μ (k70 v1 v2 v3 v4 v5 μ)) (v1 : Int32) (v2 : Int32) (v3 : Int32) (v4 : Int32) (v5 : Int32) (s0 : Int32) (μ : sM) : kV pX μ (X12_hires_J97 rec k70 v1 v2 v3 v4 v5 s0 μ) := by
  unfold X12_hires_J97
  refine kV_ite ?_ ?_
  · refine kV_ck ?_
    refine kV_bV keep_r (X12_turnsBy_kp (rI μ 61 0 (ix (52 + v5))) μ) (fun μ2 h_μ2 => ?_)
    exact kV_to h_μ2 (X12_hires_J118_kp hrec hk70 v1 v2 v3 v4 v5 s0 μ2)
  · exact kV_to keep_r (X12_hires_J118_kp hrec hk70 v1 v2 v3 v4 v5 s0 μ)
theorem X12_hires_L70_kp {rec : Int32 → Int32 → Int32 → Int32 → sM → Option sM} (hrec : ∀ (a1 : Int32) (a2 : Int32) (a3 : Int32) (a4 : Int32) (μ : sM), kV pX μ (rec a1 a2 a3 a4 μ)) : ∀ (n : Nat) (v1 : Int32) (v2 : Int32) (v3 : Int32) (v4 : Int32) (v5 : Int32) (μ : sM), kV pX μ (X12_hires_L70 rec n v1 v2 v3 v4 v5 μ) := by
  intro n
  induction n with
  | zero =>
    intros
    exact kV_none
  | succ n ih =>
    intro v1 v2 v3 v4 v5 μ
    unfold X12_hires_L70
    refine kV_ite ?_ ?_
    · exact kV_some keep_r
    · refine kV_ite ?_ ?_
      · exact kV_to keep_r (X12_hires_J97_kp hrec ih v1 v2 v3 v4 v5 1 μ)
      · exact kV_to keep_r (X12_hires_J97_kp hrec ih v1 v2 v3 v4 v5 0 μ)
theorem X12_hires__kp {rec : Int32 → Int32 → Int32 → Int32 → sM → Option sM} (hrec : ∀ (a1 : Int32) (a2 : Int32) (a3 : Int32) (a4 : Int32) (μ : sM), kV pX μ (rec a1 a2 a3 a4 μ)) (a1 : Int32) (a2 : Int32) (a3 : Int32) (a4 : Int32) (μ : sM) : kV pX μ (X12_hires_ rec a1 a2 a3 a4 μ) := by
  unfold X12_hires_
  refine kV_ite ?_ ?_
  · refine kV_ite ?_ ?_
    · exact kV_some keep_r
    · refine kV_ite ?_ ?_
      · exact kV_to keep_r (X12_hires_J26_kp hrec a2 a4 μ)
      · refine kV_ite ?_ ?_
        · exact kV_to keep_r (X12_hires_J26_kp hrec a2 a4 μ)
        · exact kV_some keep_r
  · refine kV_bV keep_r (X12_laysTurn_kp a1 μ) (fun μ2 h_μ2 => ?_)
    exact kV_to h_μ2 (X12_hires_L70_kp hrec fuN a1 a2 a3 a4 0 μ2)
theorem X12_hiresN_kp : ∀ (n : Nat) (a1 : Int32) (a2 : Int32) (a3 : Int32) (a4 : Int32) (μ : sM), kV pX μ (X12_hiresN n a1 a2 a3 a4 μ)
  | 0, _, _, _, _, _ => kV_none
  | n + 1, a1, a2, a3, a4, μ => X12_hires__kp (fun a1 a2 a3 a4 μ => X12_hiresN_kp n a1 a2 a3 a4 μ) a1 a2 a3 a4 μ
theorem X12_hires_kp (a1 : Int32) (a2 : Int32) (a3 : Int32) (a4 : Int32) (μ : sM) : kV pX μ (X12_hires a1 a2 a3 a4 μ) := X12_hiresN_kp _ a1 a2 a3 a4 μ
/-! ClockRiverModel.isHired -/
theorem X12_isHired_kp (a1 : Int32) (a2 : Int32) (μ : sM) : kI pX μ (X12_isHired a1 a2 μ) := by
  unfold X12_isHired
  refine kI_bV (keep_wI rfl keep_r) (X12_hires_kp 0 a1 a2 0 (wI μ 13 0 33 (-1))) (fun μ2 h_μ2 => ?_)
  refine kI_ite ?_ ?_
  · exact kI_some h_μ2
  · exact kI_some h_μ2
/-! ClockRiverModel.hire -/
theorem X12_hire_kp (a1 : Int32) (a2 : Int32) (μ : sM) : kI pX μ (X12_hire a1 a2 μ) := by
  unfold X12_hire
  refine kI_bI (keep_wI rfl (keep_wI rfl keep_r)) (X12_isHire_kp a1 a2 (wI (wI μ 13 0 1 0) 13 0 0 0)) (fun x1 μ2 h_μ2 => ?_)
  refine kI_ite ?_ ?_
  · refine kI_bI h_μ2 (X12_refuse_kp 5 μ2) (fun x7 μ8 h_μ8 => ?_)
    exact kI_some h_μ8
  · refine kI_bI h_μ2 (X12_isHired_kp a1 a2 μ2) (fun x3 μ4 h_μ4 => ?_)
    refine kI_ite ?_ ?_
    · refine kI_bI h_μ4 (X12_refuse_kp 8 μ4) (fun x5 μ6 h_μ6 => ?_)
      exact kI_some h_μ6
    · exact kI_some h_μ4
/-! ClockRiverModel.hireAt -/
theorem X12_hireAt_J31_kp (μ : sM) : kI pX μ (X12_hireAt_J31 μ) := by
  unfold X12_hireAt_J31
  refine kI_bI keep_r (X12_refuse_kp 5 μ) (fun x1 μ2 h_μ2 => ?_)
  exact kI_some h_μ2
theorem X12_hireAt_kp (a1 : Int32) (a2 : Int32) (a3 : Int32) (μ : sM) : kI pX μ (X12_hireAt a1 a2 a3 μ) := by
  unfold X12_hireAt
  refine kI_bI (keep_wI rfl (keep_wI rfl keep_r)) (X12_isHire_kp a1 a2 (wI (wI μ 13 0 1 0) 13 0 0 0)) (fun x1 μ2 h_μ2 => ?_)
  refine kI_ite ?_ ?_
  · exact kI_to h_μ2 (X12_hireAt_J31_kp μ2)
  · refine kI_bI h_μ2 (X12_isIn_kp (Int32.toInt64 a3) 0 (Int32.toInt64 (a1 - 1)) μ2) (fun x3 μ4 h_μ4 => ?_)
    refine kI_ite ?_ ?_
    · exact kI_to h_μ4 (X12_hireAt_J31_kp μ4)
    · refine kI_bI h_μ4 (X12_isHired_kp a1 a2 μ4) (fun x5 μ6 h_μ6 => ?_)
      refine kI_ite ?_ ?_
      · refine kI_bI h_μ6 (X12_refuse_kp 8 μ6) (fun x7 μ8 h_μ8 => ?_)
        exact kI_some h_μ8
      · refine kI_ck ?_
        exact kI_some h_μ6
/-! ClockRiverModel.areTurns -/
theorem X12_areTurns_kp (a0 : Int32) (a1 : Int32) (μ : sM) : kI pX μ (X12_areTurns a0 a1 μ) := by
  unfold X12_areTurns
  refine kI_bI keep_r (X12_isIn_kp (Int32.toInt64 a0) 0 60 μ) (fun x1 μ2 h_μ2 => ?_)
  refine kI_ite ?_ ?_
  · exact kI_some h_μ2
  · refine kI_bI h_μ2 (X12_isIn_kp (Int32.toInt64 a1) 0 60 μ2) (fun x3 μ4 h_μ4 => ?_)
    refine kI_ite ?_ ?_
    · exact kI_some h_μ4
    · exact kI_some h_μ4
/-! ClockRiverModel.laysWound -/
theorem X12_laysWound_J105_kp {k26 : Int32 → Int32 → Int32 → sM → Option sM} {k47 : Int32 → Int32 → Int32 → Int32 → Int32 → Int32 → sM → Option sM} (hk26 : ∀ (v1 : Int32) (v2 : Int32) (v3 : Int32) (μ : sM), kV pX μ (k26 v1 v2 v3 μ)) (hk47 : ∀ (v1 : Int32) (v2 : Int32) (v3 : Int32) (v4 : Int32) (v5 : Int32) (v6 : Int32) (μ : sM), kV pX μ (k47 v1 v2 v3 v4 v5 v6 μ)) (v1 : Int32) (v2 : Int32) (v3 : Int32) (v4 : Int32) (v5 : Int32) (v6 : Int32) (μ : sM) : kV pX μ (X12_laysWound_J105 k26 k47 v1 v2 v3 v4 v5 v6 μ) := by
  unfold X12_laysWound_J105
  exact kV_to keep_r (hk47 v1 v2 v3 v4 v5 (v6 + 1) μ)
theorem X12_laysWound_J165_kp {k26 : Int32 → Int32 → Int32 → sM → Option sM} (hk26 : ∀ (v1 : Int32) (v2 : Int32) (v3 : Int32) (μ : sM), kV pX μ (k26 v1 v2 v3 μ)) (v1 : Int32) (v2 : Int32) (v3 : Int32) (μ : sM) : kV pX μ (X12_laysWound_J165 k26 v1 v2 v3 μ) := by
  unfold X12_laysWound_J165
  exact kV_to keep_r (hk26 v1 v2 (v3 + 1) μ)
theorem X12_laysWound_J162_kp {k26 : Int32 → Int32 → Int32 → sM → Option sM} (hk26 : ∀ (v1 : Int32) (v2 : Int32) (v3 : Int32) (μ : sM), kV pX μ (k26 v1 v2 v3 μ)) (v1 : Int32) (v2 : Int32) (v3 : Int32) (s0 : Int32) (μ : sM) : kV pX μ (X12_laysWound_J162 k26 v1 v2 v3 s0 μ) := by
  unfold X12_laysWound_J162
  exact kV_to (keep_wI rfl keep_r) (X12_laysWound_J165_kp hk26 v1 v2 v3 (wI μ 13 0 36 s0))
theorem X12_laysWound_L47_kp {k26 : Int32 → Int32 → Int32 → sM → Option sM} (hk26 : ∀ (v1 : Int32) (v2 : Int32) (v3 : Int32) (μ : sM), kV pX μ (k26 v1 v2 v3 μ)) : ∀ (n : Nat) (v1 : Int32) (v2 : Int32) (v3 : Int32) (v4 : Int32) (v5 : Int32) (v6 : Int32) (μ : sM), kV pX μ (X12_laysWound_L47 k26 n v1 v2 v3 v4 v5 v6 μ) := by
  intro n
  induction n with
  | zero =>
    intros
    exact kV_none
  | succ n ih =>
    intro v1 v2 v3 v4 v5 v6 μ
    unfold X12_laysWound_L47
    refine kV_ite ?_ ?_
    · refine kV_ite ?_ ?_
      · refine kV_ite ?_ ?_
        · exact kV_to (keep_wI rfl (keep_wI rfl keep_r)) (X12_laysWound_J162_kp hk26 v1 v2 v3 (imn (rI μ 13 0 36) v5) (wI (wI μ 13 0 34 ((rI μ 13 0 34) + 1)) 13 0 35 ((rI μ 13 0 35) &&& v3)))
        · exact kV_to (keep_wI rfl (keep_wI rfl keep_r)) (X12_laysWound_J162_kp hk26 v1 v2 v3 v5 (wI (wI μ 13 0 34 ((rI μ 13 0 34) + 1)) 13 0 35 ((rI μ 13 0 35) &&& v3)))
      · exact kV_to keep_r (X12_laysWound_J165_kp hk26 v1 v2 v3 μ)
    · refine kV_bI keep_r (X12_has_kp v3 v6 μ) (fun x1 μ2 h_μ2 => ?_)
      refine kV_ite ?_ ?_
      · exact kV_to h_μ2 (X12_laysWound_J105_kp hk26 ih v1 v2 v3 v4 v5 v6 μ2)
      · refine kV_ck ?_
        refine kV_ck ?_
        exact kV_to h_μ2 (X12_laysWound_J105_kp hk26 ih v1 v2 v3 (imn 60 (v4 + (rI μ2 61 0 (ix (52 + v6))))) (v5 + (rI μ2 61 0 (ix (58 + v6)))) v6 μ2)
theorem X12_laysWound_L26_kp : ∀ (n : Nat) (v1 : Int32) (v2 : Int32) (v3 : Int32) (μ : sM), kV pX μ (X12_laysWound_L26 n v1 v2 v3 μ) := by
  intro n
  induction n with
  | zero =>
    intros
    exact kV_none
  | succ n ih =>
    intro v1 v2 v3 μ
    unfold X12_laysWound_L26
    refine kV_ite ?_ ?_
    · exact kV_some keep_r
    · exact kV_to keep_r (X12_laysWound_L47_kp ih fuN v1 v2 v3 v1 0 0 μ)
theorem X12_laysWound_kp (a1 : Int32) (a2 : Int32) (μ : sM) : kV pX μ (X12_laysWound a1 a2 μ) := by
  unfold X12_laysWound
  exact kV_to (keep_wI rfl (keep_wI rfl (keep_wI rfl keep_r))) (X12_laysWound_L26_kp fuN a1 a2 0 (wI (wI (wI μ 13 0 34 0) 13 0 35 ((isl 1 (rI μ 61 0 2)) - 1)) 13 0 36 (-1)))
/-! ClockRiverModel.wound -/
theorem X12_wound_kp (a1 : Int32) (a2 : Int32) (μ : sM) : kI pX μ (X12_wound a1 a2 μ) := by
  unfold X12_wound
  refine kI_bI (keep_wI rfl (keep_wI rfl keep_r)) (X12_areTurns_kp a1 a2 (wI (wI μ 13 0 1 0) 13 0 0 0)) (fun x1 μ2 h_μ2 => ?_)
  refine kI_ite ?_ ?_
  · refine kI_bI h_μ2 (X12_refuse_kp 5 μ2) (fun x5 μ6 h_μ6 => ?_)
    exact kI_some h_μ6
  · refine kI_bV h_μ2 (X12_laysWound_kp a1 a2 μ2) (fun μ4 h_μ4 => ?_)
    exact kI_some h_μ4
/-! ClockRiverModel.sure -/
theorem X12_sure_kp (a1 : Int32) (a2 : Int32) (μ : sM) : kI pX μ (X12_sure a1 a2 μ) := by
  unfold X12_sure
  refine kI_bI (keep_wI rfl (keep_wI rfl keep_r)) (X12_areTurns_kp a1 a2 (wI (wI μ 13 0 1 0) 13 0 0 0)) (fun x1 μ2 h_μ2 => ?_)
  refine kI_ite ?_ ?_
  · refine kI_bI h_μ2 (X12_refuse_kp 5 μ2) (fun x7 μ8 h_μ8 => ?_)
    exact kI_some h_μ8
  · refine kI_bV h_μ2 (X12_laysWound_kp a1 a2 μ2) (fun μ4 h_μ4 => ?_)
    refine kI_ite ?_ ?_
    · refine kI_bI h_μ4 (X12_refuse_kp 8 μ4) (fun x5 μ6 h_μ6 => ?_)
      exact kI_some h_μ6
    · exact kI_some h_μ4
/-! ClockRiverModel.cheapest -/
theorem X12_cheapest_kp (a1 : Int32) (a2 : Int32) (μ : sM) : kI pX μ (X12_cheapest a1 a2 μ) := by
  unfold X12_cheapest
  refine kI_bI (keep_wI rfl (keep_wI rfl keep_r)) (X12_areTurns_kp a1 a2 (wI (wI μ 13 0 1 0) 13 0 0 0)) (fun x1 μ2 h_μ2 => ?_)
  refine kI_ite ?_ ?_
  · refine kI_bI h_μ2 (X12_refuse_kp 5 μ2) (fun x7 μ8 h_μ8 => ?_)
    exact kI_some h_μ8
  · refine kI_bV h_μ2 (X12_laysWound_kp a1 a2 μ2) (fun μ4 h_μ4 => ?_)
    refine kI_ite ?_ ?_
    · refine kI_bI h_μ4 (X12_refuse_kp 8 μ4) (fun x5 μ6 h_μ6 => ?_)
      exact kI_some h_μ6
    · exact kI_some h_μ4
/-! ClockRiverModel.whyNoGame -/
theorem X12_whyNoGame_kp (a1 : Int32) (a2 : Int32) (a3 : Int32) (a4 : Int32) (μ : sM) : kI pX μ (X12_whyNoGame a1 a2 a3 a4 μ) := by
  unfold X12_whyNoGame
  refine kI_bI keep_r (X12_isMillAt_kp a1 μ) (fun x1 μ2 h_μ2 => ?_)
  refine kI_ite ?_ ?_
  · exact kI_some h_μ2
  · refine kI_bI h_μ2 (X12_isMillAt_kp a2 μ2) (fun x3 μ4 h_μ4 => ?_)
    refine kI_ite ?_ ?_
    · exact kI_some h_μ4
    · refine kI_ite ?_ ?_
      · exact kI_some h_μ4
      · refine kI_bI h_μ4 (X12_isIn_kp (Int32.toInt64 a3) (Int32.toInt64 a4) 4 μ4) (fun x5 μ6 h_μ6 => ?_)
        refine kI_ite ?_ ?_
        · exact kI_some h_μ6
        · exact kI_some h_μ6
/-! ClockRiverModel.plays -/
theorem X12_plays_J180_kp {rec : Int32 → Int32 → Int32 → Int32 → sM → Option (Int32 × sM)} (hrec : ∀ (a1 : Int32) (a2 : Int32) (a3 : Int32) (a4 : Int32) (μ : sM), kI pX μ (rec a1 a2 a3 a4 μ)) {k73 : Int32 → Int32 → Int32 → Int32 → Int32 → Int32 → Int32 → Int32 → Int32 → sM → Option (Int32 × sM)} (hk73 : ∀ (v1 : Int32) (v2 : Int32) (v3 : Int32) (v4 : Int32) (v5 : Int32) (v6 : Int32) (v7 : Int32) (v8 : Int32) (v9 : Int32) (μ : sM), kI pX μ (k73 v1 v2 v3 v4 v5 v6 v7 v8 v9 μ)) (v1 : Int32) (v2 : Int32) (v3 : Int32) (v4 : Int32) (v5 : Int32) (v6 : Int32) (v7 : Int32) (v8 : Int32) (v9 : Int32) (μ : sM) : kI pX μ (X12_plays_J180 rec k73 v1 v2 v3 v4 v5 v6 v7 v8 v9 μ) := by
  unfold X12_plays_J180
  exact kI_to keep_r (hk73 v1 v2 v3 v4 v5 v6 v7 v8 (v9 + 1) μ)
theorem X12_plays_J172_kp {rec : Int32 → Int32 → Int32 → Int32 → sM → Option (Int32 × sM)} (hrec : ∀ (a1 : Int32) (a2 : Int32) (a3 : Int32) (a4 : Int32) (μ : sM), kI pX μ (rec a1 a2 a3 a4 μ)) {k73 : Int32 → Int32 → Int32 → Int32 → Int32 → Int32 → Int32 → Int32 → Int32 → sM → Option (Int32 × sM)} (hk73 : ∀ (v1 : Int32) (v2 : Int32) (v3 : Int32) (v4 : Int32) (v5 : Int32) (v6 : Int32) (v7 : Int32) (v8 : Int32) (v9 : Int32) (μ : sM), kI pX μ (k73 v1 v2 v3 v4 v5 v6 v7 v8 v9 μ)) (v1 : Int32) (v2 : Int32) (v3 : Int32) (v4 : Int32) (v5 : Int32) (v6 : Int32) (v9 : Int32) (v10 : Int32) (μ : sM) : kI pX μ (X12_plays_J172 rec k73 v1 v2 v3 v4 v5 v6 v9 v10 μ) := by
  unfold X12_plays_J172
  exact kI_to keep_r (X12_plays_J180_kp hrec hk73 v1 v2 v3 v4 v5 v6 v10 v9 v9 μ)
theorem X12_plays_J118_kp {rec : Int32 → Int32 → Int32 → Int32 → sM → Option (Int32 × sM)} (hrec : ∀ (a1 : Int32) (a2 : Int32) (a3 : Int32) (a4 : Int32) (μ : sM), kI pX μ (rec a1 a2 a3 a4 μ)) {k73 : Int32 → Int32 → Int32 → Int32 → Int32 → Int32 → Int32 → Int32 → Int32 → sM → Option (Int32 × sM)} (hk73 : ∀ (v1 : Int32) (v2 : Int32) (v3 : Int32) (v4 : Int32) (v5 : Int32) (v6 : Int32) (v7 : Int32) (v8 : Int32) (v9 : Int32) (μ : sM), kI pX μ (k73 v1 v2 v3 v4 v5 v6 v7 v8 v9 μ)) (v1 : Int32) (v2 : Int32) (v3 : Int32) (v4 : Int32) (v5 : Int32) (v6 : Int32) (v7 : Int32) (v8 : Int32) (v9 : Int32) (s0 : Int32) (s1 : Int32) (μ : sM) : kI pX μ (X12_plays_J118 rec k73 v1 v2 v3 v4 v5 v6 v7 v8 v9 s0 s1 μ) := by
  unfold X12_plays_J118
  refine kI_ck ?_
  refine kI_bI (keep_wI rfl keep_r) (X12_goesHour_kp (wI μ 61 0 (ix s1) s0)) (fun x1 μ2 h_μ2 => ?_)
  refine kI_bI h_μ2 (hrec v1 v2 (v3 + 1) v4 μ2) (fun x3 μ4 h_μ4 => ?_)
  refine kI_bV h_μ4 (X12_takesTurn_kp v3 μ4) (fun μ6 h_μ6 => ?_)
  refine kI_ite ?_ ?_
  · exact kI_to h_μ6 (X12_plays_J172_kp hrec hk73 v1 v2 v3 v4 v5 v6 v9 x3 μ6)
  · refine kI_ite ?_ ?_
    · refine kI_ite ?_ ?_
      · exact kI_to h_μ6 (X12_plays_J172_kp hrec hk73 v1 v2 v3 v4 v5 v6 v9 x3 μ6)
      · exact kI_to h_μ6 (X12_plays_J180_kp hrec hk73 v1 v2 v3 v4 v5 v6 v7 v8 v9 μ6)
    · refine kI_ite ?_ ?_
      · exact kI_to h_μ6 (X12_plays_J172_kp hrec hk73 v1 v2 v3 v4 v5 v6 v9 x3 μ6)
      · exact kI_to h_μ6 (X12_plays_J180_kp hrec hk73 v1 v2 v3 v4 v5 v6 v7 v8 v9 μ6)
theorem X12_plays_L73_kp {rec : Int32 → Int32 → Int32 → Int32 → sM → Option (Int32 × sM)} (hrec : ∀ (a1 : Int32) (a2 : Int32) (a3 : Int32) (a4 : Int32) (μ : sM), kI pX μ (rec a1 a2 a3 a4 μ)) : ∀ (n : Nat) (v1 : Int32) (v2 : Int32) (v3 : Int32) (v4 : Int32) (v5 : Int32) (v6 : Int32) (v7 : Int32) (v8 : Int32) (v9 : Int32) (μ : sM), kI pX μ (X12_plays_L73 rec n v1 v2 v3 v4 v5 v6 v7 v8 v9 μ) := by
  intro n
  induction n with
  | zero =>
    intros
    exact kI_none
  | succ n ih =>
    intro v1 v2 v3 v4 v5 v6 v7 v8 v9 μ
    unfold X12_plays_L73
    refine kI_ite ?_ ?_
    · refine kI_ite ?_ ?_
      · exact kI_some (keep_wI rfl keep_r)
      · exact kI_some keep_r
    · refine kI_ite ?_ ?_
      · exact kI_to keep_r (X12_plays_J118_kp hrec ih v1 v2 v3 v4 v5 v6 v7 v8 v9 99 (22 + v6) μ)
      · refine kI_ite ?_ ?_
        · exact kI_to keep_r (X12_plays_J118_kp hrec ih v1 v2 v3 v4 v5 v6 v7 v8 v9 0 (22 + v6) μ)
        · refine kI_ck ?_
          exact kI_to keep_r (X12_plays_J118_kp hrec ih v1 v2 v3 v4 v5 v6 v7 v8 v9 (rI μ 61 0 (ix (22 + v6))) (22 + v6) μ)
theorem X12_plays_J55_kp {rec : Int32 → Int32 → Int32 → Int32 → sM → Option (Int32 × sM)} (hrec : ∀ (a1 : Int32) (a2 : Int32) (a3 : Int32) (a4 : Int32) (μ : sM), kI pX μ (rec a1 a2 a3 a4 μ)) (v1 : Int32) (v2 : Int32) (v3 : Int32) (v4 : Int32) (v5 : Int32) (s0 : Int32) (s1 : Int32) (μ : sM) : kI pX μ (X12_plays_J55 rec v1 v2 v3 v4 v5 s0 s1 μ) := by
  unfold X12_plays_J55
  refine kI_ck ?_
  refine kI_bV keep_r (X12_laysTurn_kp v3 μ) (fun μ2 h_μ2 => ?_)
  exact kI_to h_μ2 (X12_plays_L73_kp hrec fuN v1 v2 v3 v4 v5 (rI μ 61 0 (ix (s1 + s0))) 0 (-1) 0 μ2)
theorem X12_plays_J37_kp {rec : Int32 → Int32 → Int32 → Int32 → sM → Option (Int32 × sM)} (hrec : ∀ (a1 : Int32) (a2 : Int32) (a3 : Int32) (a4 : Int32) (μ : sM), kI pX μ (rec a1 a2 a3 a4 μ)) (v1 : Int32) (v2 : Int32) (v3 : Int32) (v4 : Int32) (s0 : Int32) (μ : sM) : kI pX μ (X12_plays_J37 rec v1 v2 v3 v4 s0 μ) := by
  unfold X12_plays_J37
  refine kI_ite ?_ ?_
  · exact kI_to keep_r (X12_plays_J55_kp hrec v1 v2 v3 v4 s0 v2 34 μ)
  · exact kI_to keep_r (X12_plays_J55_kp hrec v1 v2 v3 v4 s0 v1 34 μ)
theorem X12_plays__kp {rec : Int32 → Int32 → Int32 → Int32 → sM → Option (Int32 × sM)} (hrec : ∀ (a1 : Int32) (a2 : Int32) (a3 : Int32) (a4 : Int32) (μ : sM), kI pX μ (rec a1 a2 a3 a4 μ)) (a1 : Int32) (a2 : Int32) (a3 : Int32) (a4 : Int32) (μ : sM) : kI pX μ (X12_plays_ rec a1 a2 a3 a4 μ) := by
  unfold X12_plays_
  refine kI_ite ?_ ?_
  · refine kI_ck ?_
    refine kI_ck ?_
    exact kI_some keep_r
  · refine kI_ite ?_ ?_
    · exact kI_to keep_r (X12_plays_J37_kp hrec a1 a2 a3 a4 1 μ)
    · exact kI_to keep_r (X12_plays_J37_kp hrec a1 a2 a3 a4 0 μ)
theorem X12_playsN_kp : ∀ (n : Nat) (a1 : Int32) (a2 : Int32) (a3 : Int32) (a4 : Int32) (μ : sM), kI pX μ (X12_playsN n a1 a2 a3 a4 μ)
  | 0, _, _, _, _, _ => kI_none
  | n + 1, a1, a2, a3, a4, μ => X12_plays__kp (fun a1 a2 a3 a4 μ => X12_playsN_kp n a1 a2 a3 a4 μ) a1 a2 a3 a4 μ
theorem X12_plays_kp (a1 : Int32) (a2 : Int32) (a3 : Int32) (a4 : Int32) (μ : sM) : kI pX μ (X12_plays a1 a2 a3 a4 μ) := X12_playsN_kp _ a1 a2 a3 a4 μ
/-! ClockRiverModel.game -/
theorem X12_game_kp (a1 : Int32) (a2 : Int32) (a3 : Int32) (μ : sM) : kI pX μ (X12_game a1 a2 a3 μ) := by
  unfold X12_game
  refine kI_bI (keep_wI rfl keep_r) (X12_whyNoGame_kp a1 a2 a3 0 (wI μ 13 0 1 0)) (fun x1 μ2 h_μ2 => ?_)
  refine kI_ite ?_ ?_
  · refine kI_ck ?_
    refine kI_ck ?_
    refine kI_bI (keep_wI rfl h_μ2) (X12_plays_kp a1 a2 0 a3 (wI μ2 13 0 0 x1)) (fun x3 μ4 h_μ4 => ?_)
    exact kI_some h_μ4
  · exact kI_some (keep_wI rfl h_μ2)
/-! ClockRiverModel.moveOf -/
theorem X12_moveOf_kp (a1 : Int32) (a2 : Int32) (a3 : Int32) (μ : sM) : kI pX μ (X12_moveOf a1 a2 a3 μ) := by
  unfold X12_moveOf
  refine kI_bI (keep_wI rfl keep_r) (X12_whyNoGame_kp a1 a2 a3 1 (wI μ 13 0 1 0)) (fun x1 μ2 h_μ2 => ?_)
  refine kI_ite ?_ ?_
  · refine kI_bI (keep_wI rfl h_μ2) (X12_plays_kp a1 a2 0 a3 (wI μ2 13 0 0 x1)) (fun x3 μ4 h_μ4 => ?_)
    exact kI_some h_μ4
  · exact kI_some (keep_wI rfl h_μ2)
/-! ClockRiverModel.fraction -/
theorem X12_fraction_L9_kp : ∀ (n : Nat) (v1 : Int64) (v3 : Int64) (v5 : Int64) (v7 : Int64) (μ : sM), kI pX μ (X12_fraction_L9 n v1 v3 v5 v7 μ) := by
  intro n
  induction n with
  | zero =>
    intros
    exact kI_none
  | succ n ih =>
    intro v1 v3 v5 v7 μ
    unfold X12_fraction_L9
    refine kI_ite ?_ ?_
    · refine kI_cn ?_
      refine kI_cn ?_
      exact kI_some (keep_wL rfl (keep_wL rfl keep_r))
    · refine kI_cn ?_
      exact kI_to keep_r (ih v1 v3 v7 (lrm v5 v7) μ)
theorem X12_fraction_kp (a1 : Int64) (a3 : Int64) (μ : sM) : kI pX μ (X12_fraction a1 a3 μ) := by
  unfold X12_fraction
  exact kI_to keep_r (X12_fraction_L9_kp fuN a1 a3 (lab a1) a3 μ)
/-! ClockRiverModel.share -/
theorem X12_share_kp (a1 : Int32) (μ : sM) : kI pX μ (X12_share a1 μ) := by
  unfold X12_share
  refine kI_bI (keep_wI rfl (keep_wI rfl keep_r)) (X12_isMillAt_kp a1 (wI (wI μ 13 0 1 0) 13 0 0 0)) (fun x1 μ2 h_μ2 => ?_)
  refine kI_ite ?_ ?_
  · refine kI_bI h_μ2 (X12_no_kp 2 μ2) (fun x11 μ12 h_μ12 => ?_)
    refine kI_ck ?_
    exact kI_some h_μ12
  · refine kI_bI h_μ2 (X12_allGround_kp μ2) (fun x3 μ4 h_μ4 => ?_)
    refine kI_ite ?_ ?_
    · refine kI_bI h_μ4 (X12_no_kp 8 μ4) (fun x9 μ10 h_μ10 => ?_)
      refine kI_ck ?_
      exact kI_some h_μ10
    · refine kI_ck ?_
      refine kI_bI h_μ4 (X12_allGround_kp μ4) (fun x5 μ6 h_μ6 => ?_)
      refine kI_bI h_μ6 (X12_fraction_kp (Int32.toInt64 (rI μ4 61 0 (ix (46 + a1)))) (Int32.toInt64 x5) μ6) (fun x7 μ8 h_μ8 => ?_)
      refine kI_ck ?_
      exact kI_some h_μ8
/-! ClockRiverModel.price -/
theorem X12_price_kp (a1 : Int32) (μ : sM) : kI pX μ (X12_price a1 μ) := by
  unfold X12_price
  refine kI_bI (keep_wI rfl (keep_wI rfl keep_r)) (X12_isWinderAt_kp a1 (wI (wI μ 13 0 1 0) 13 0 0 0)) (fun x1 μ2 h_μ2 => ?_)
  refine kI_ite ?_ ?_
  · refine kI_bI h_μ2 (X12_no_kp 2 μ2) (fun x3 μ4 h_μ4 => ?_)
    refine kI_ck ?_
    exact kI_some h_μ4
  · refine kI_ck ?_
    refine kI_ck ?_
    refine kI_bI h_μ2 (X12_fraction_kp (Int32.toInt64 (rI μ2 61 0 (ix (58 + a1)))) (Int32.toInt64 (rI μ2 61 0 (ix (52 + a1)))) μ2) (fun x5 μ6 h_μ6 => ?_)
    refine kI_ck ?_
    exact kI_some h_μ6
/-! ClockRiverModel.wet -/
theorem X12_wet_J34_kp (μ : sM) : kI pX μ (X12_wet_J34 μ) := by
  unfold X12_wet_J34
  refine kI_bI keep_r (X12_no_kp 5 μ) (fun x1 μ2 h_μ2 => ?_)
  refine kI_ck ?_
  exact kI_some h_μ2
theorem X12_wet_J68_kp {k45 : Int32 → Int32 → Int64 → Int32 → sM → Option (Int32 × sM)} (hk45 : ∀ (v1 : Int32) (v2 : Int32) (v3 : Int64) (v5 : Int32) (μ : sM), kI pX μ (k45 v1 v2 v3 v5 μ)) (v1 : Int32) (v2 : Int32) (v3 : Int64) (v5 : Int32) (s0 : Int64) (s1 : Int32) (μ : sM) : kI pX μ (X12_wet_J68 k45 v1 v2 v3 v5 s0 s1 μ) := by
  unfold X12_wet_J68
  refine kI_ck ?_
  exact kI_to (keep_wL rfl keep_r) (hk45 v1 v2 v3 (v5 + 1) (wL μ 70 0 (ix s1) s0))
theorem X12_wet_L88_kp {k78 : Int32 → Int32 → Int64 → Int32 → sM → Option (Int32 × sM)} (hk78 : ∀ (v1 : Int32) (v2 : Int32) (v3 : Int64) (v5 : Int32) (μ : sM), kI pX μ (k78 v1 v2 v3 v5 μ)) : ∀ (n : Nat) (v1 : Int32) (v2 : Int32) (v3 : Int64) (v5 : Int32) (v6 : Int32) (μ : sM), kI pX μ (X12_wet_L88 k78 n v1 v2 v3 v5 v6 μ) := by
  intro n
  induction n with
  | zero =>
    intros
    exact kI_none
  | succ n ih =>
    intro v1 v2 v3 v5 v6 μ
    unfold X12_wet_L88
    refine kI_ite ?_ ?_
    · exact kI_to (keep_wL rfl keep_r) (hk78 v1 v2 (v3 * 16) (v5 + 1) (wL μ 70 0 0 ((rL μ 70 0 0) * (Int32.toInt64 (16 - (rI μ 61 0 5))))))
    · refine kI_ck ?_
      refine kI_ck ?_
      refine kI_ck ?_
      exact kI_to (keep_wL rfl keep_r) (ih v1 v2 v3 v5 (v6 + (-1)) (wL μ 70 0 (ix v6) (((rL μ 70 0 (ix v6)) * (Int32.toInt64 (16 - (rI μ 61 0 5)))) + ((rL μ 70 0 (ix (v6 - 1))) * (Int32.toInt64 (rI μ 61 0 5))))))
theorem X12_wet_L179_kp : ∀ (n : Nat) (v3 : Int64) (v5 : Int64) (v7 : Int32) (μ : sM), kI pX μ (X12_wet_L179 n v3 v5 v7 μ) := by
  intro n
  induction n with
  | zero =>
    intros
    exact kI_none
  | succ n ih =>
    intro v3 v5 v7 μ
    unfold X12_wet_L179
    refine kI_ite ?_ ?_
    · refine kI_bI keep_r (X12_fraction_kp v5 v3 μ) (fun x1 μ2 h_μ2 => ?_)
      refine kI_ck ?_
      exact kI_some h_μ2
    · refine kI_ck ?_
      exact kI_to keep_r (ih v3 (v5 + (rL μ 70 0 (ix v7))) (v7 + 1) μ)
theorem X12_wet_L78_kp : ∀ (n : Nat) (v1 : Int32) (v2 : Int32) (v3 : Int64) (v5 : Int32) (μ : sM), kI pX μ (X12_wet_L78 n v1 v2 v3 v5 μ) := by
  intro n
  induction n with
  | zero =>
    intros
    exact kI_none
  | succ n ih =>
    intro v1 v2 v3 v5 μ
    unfold X12_wet_L78
    refine kI_ite ?_ ?_
    · exact kI_to keep_r (X12_wet_L179_kp fuN v3 0 v2 μ)
    · exact kI_to keep_r (X12_wet_L88_kp ih fuN v1 v2 v3 v5 12 μ)
theorem X12_wet_L45_kp : ∀ (n : Nat) (v1 : Int32) (v2 : Int32) (v3 : Int64) (v5 : Int32) (μ : sM), kI pX μ (X12_wet_L45 n v1 v2 v3 v5 μ) := by
  intro n
  induction n with
  | zero =>
    intros
    exact kI_none
  | succ n ih =>
    intro v1 v2 v3 v5 μ
    unfold X12_wet_L45
    refine kI_ite ?_ ?_
    · exact kI_to keep_r (X12_wet_L78_kp fuN v1 v2 v3 0 μ)
    · refine kI_ite ?_ ?_
      · exact kI_to keep_r (X12_wet_J68_kp ih v1 v2 v3 v5 1 v5 μ)
      · exact kI_to keep_r (X12_wet_J68_kp ih v1 v2 v3 v5 0 v5 μ)
theorem X12_wet_kp (a1 : Int32) (a2 : Int32) (μ : sM) : kI pX μ (X12_wet a1 a2 μ) := by
  unfold X12_wet
  refine kI_bI (keep_wI rfl (keep_wI rfl keep_r)) (X12_isIn_kp (Int32.toInt64 a1) 0 12 (wI (wI μ 13 0 1 0) 13 0 0 0)) (fun x1 μ2 h_μ2 => ?_)
  refine kI_ite ?_ ?_
  · exact kI_to h_μ2 (X12_wet_J34_kp μ2)
  · refine kI_bI h_μ2 (X12_isIn_kp (Int32.toInt64 a2) 0 12 μ2) (fun x3 μ4 h_μ4 => ?_)
    refine kI_ite ?_ ?_
    · exact kI_to h_μ4 (X12_wet_J34_kp μ4)
    · exact kI_to h_μ4 (X12_wet_L45_kp fuN a1 a2 1 0 μ4)
/-! ClockRiverModel.anyHours -/
theorem X12_anyHours_L19_kp : ∀ (n : Nat) (v1 : Int32) (v2 : Int32) (μ : sM), kI pX μ (X12_anyHours_L19 n v1 v2 μ) := by
  intro n
  induction n with
  | zero =>
    intros
    exact kI_none
  | succ n ih =>
    intro v1 v2 μ
    unfold X12_anyHours_L19
    refine kI_ite ?_ ?_
    · exact kI_some (keep_wI rfl keep_r)
    · refine kI_bI keep_r (X12_goesHour_kp μ) (fun x1 μ2 h_μ2 => ?_)
      exact kI_to (keep_wI rfl h_μ2) (ih v1 (v2 + 1) (wI μ2 13 0 46 ((rI μ 13 0 46) + x1)))
theorem X12_anyHours_kp (a1 : Int32) (μ : sM) : kI pX μ (X12_anyHours a1 μ) := by
  unfold X12_anyHours
  refine kI_ite ?_ ?_
  · exact kI_to keep_r (X12_anyHours_L19_kp fuN a1 0 μ)
  · exact kI_some keep_r
/-! ClockRiverModel.isWound -/
theorem X12_isWound_kp (a1 : Int32) (a2 : Int32) (μ : sM) : kI pX μ (X12_isWound a1 a2 μ) := by
  unfold X12_isWound
  refine kI_bI keep_r (X12_winds_kp a1 a2 μ) (fun x1 μ2 h_μ2 => ?_)
  refine kI_ite ?_ ?_
  · exact kI_some h_μ2
  · exact kI_some (keep_wI rfl h_μ2)
/-! ClockRiverModel.draw -/
theorem X12_draw_kp (a1 : Int32) (μ : sM) : kI pX μ (X12_draw a1 μ) := by
  unfold X12_draw
  refine kI_cn ?_
  exact kI_some (keep_wI rfl keep_r)
/-! ClockRiverModel.isAny -/
theorem X12_isAny_J37_kp (s0 : Int32) (s1 : Int32) (μ : sM) : kI pX μ (X12_isAny_J37 s0 s1 μ) := by
  unfold X12_isAny_J37
  refine kI_ck ?_
  refine kI_bI (keep_wI rfl keep_r) (X12_draw_kp (rI (wI μ 61 0 (ix s1) s0) 61 0 2) (wI μ 61 0 (ix s1) s0)) (fun x1 μ2 h_μ2 => ?_)
  refine kI_bI h_μ2 (X12_isWound_kp x1 0 μ2) (fun x3 μ4 h_μ4 => ?_)
  refine kI_ck ?_
  exact kI_some h_μ4
theorem X12_isAny_kp (μ : sM) : kI pX μ (X12_isAny μ) := by
  unfold X12_isAny
  refine kI_ite ?_ ?_
  · exact kI_some keep_r
  · refine kI_bI keep_r (X12_draw_kp 16 μ) (fun x1 μ2 h_μ2 => ?_)
    refine kI_ite ?_ ?_
    · exact kI_to h_μ2 (X12_isAny_J37_kp 0 7 μ2)
    · exact kI_to h_μ2 (X12_isAny_J37_kp 1 7 μ2)
/-! ClockRiverModel.does -/
theorem X12_does_J55_kp (s0 : Int32) (s1 : Int32) (μ : sM) : kI pX μ (X12_does_J55 s0 s1 μ) := by
  unfold X12_does_J55
  refine kI_bI keep_r (X12_isWound_kp s1 s0 μ) (fun x1 μ2 h_μ2 => ?_)
  refine kI_ck ?_
  exact kI_some h_μ2
theorem X12_does_J117_kp (s0 : Int32) (s1 : Int32) (μ : sM) : kI pX μ (X12_does_J117 s0 s1 μ) := by
  unfold X12_does_J117
  refine kI_bI keep_r (X12_becomes_kp s1 s0 μ) (fun x1 μ2 h_μ2 => ?_)
  refine kI_ck ?_
  exact kI_some h_μ2
theorem X12_does_kp (a1 : Int32) (μ : sM) : kI pX μ (X12_does a1 μ) := by
  unfold X12_does
  refine kI_ck ?_
  refine kI_ite ?_ ?_
  · refine kI_ck ?_
    refine kI_bI keep_r (X12_anyHours_kp (rI μ 61 0 (ix (a1 + 1))) μ) (fun x5 μ6 h_μ6 => ?_)
    refine kI_ck ?_
    exact kI_some h_μ6
  · refine kI_ite ?_ ?_
    · refine kI_ck ?_
      refine kI_ck ?_
      refine kI_ite ?_ ?_
      · exact kI_to keep_r (X12_does_J55_kp 1 (rI μ 61 0 (ix (a1 + 1))) μ)
      · exact kI_to keep_r (X12_does_J55_kp 0 (rI μ 61 0 (ix (a1 + 1))) μ)
    · refine kI_ite ?_ ?_
      · refine kI_ck ?_
        refine kI_ck ?_
        refine kI_bI keep_r (X12_becomes_kp (22 + (rI μ 61 0 (ix (a1 + 1)))) (rI μ 61 0 (ix (a1 + 2))) μ) (fun x3 μ4 h_μ4 => ?_)
        refine kI_ck ?_
        exact kI_some h_μ4
      · refine kI_ite ?_ ?_
        · refine kI_bI keep_r (X12_isAny_kp μ) (fun x1 μ2 h_μ2 => ?_)
          refine kI_ck ?_
          exact kI_some h_μ2
        · refine kI_ite ?_ ?_
          · exact kI_some (keep_wI rfl keep_r)
          · refine kI_ite ?_ ?_
            · exact kI_to keep_r (X12_does_J117_kp 1 7 μ)
            · exact kI_to keep_r (X12_does_J117_kp 0 7 μ)
/-! ClockRiverModel.isSo -/
theorem X12_isSo_J47_kp (v1 : Int32) (s0 : Int32) (μ : sM) : kI pX μ (X12_isSo_J47 v1 s0 μ) := by
  unfold X12_isSo_J47
  refine kI_ck ?_
  refine kI_ck ?_
  refine kI_ck ?_
  refine kI_ite ?_ ?_
  · refine kI_ck ?_
    refine kI_ite ?_ ?_
    · exact kI_some keep_r
    · exact kI_some keep_r
  · refine kI_ck ?_
    refine kI_ite ?_ ?_
    · refine kI_ck ?_
      refine kI_ite ?_ ?_
      · exact kI_some keep_r
      · exact kI_some keep_r
    · refine kI_ck ?_
      refine kI_ite ?_ ?_
      · exact kI_some keep_r
      · exact kI_some keep_r
theorem X12_isSo_kp (a1 : Int32) (μ : sM) : kI pX μ (X12_isSo a1 μ) := by
  unfold X12_isSo
  refine kI_ck ?_
  refine kI_ite ?_ ?_
  · refine kI_ite ?_ ?_
    · exact kI_some keep_r
    · exact kI_some keep_r
  · refine kI_ite ?_ ?_
    · exact kI_to keep_r (X12_isSo_J47_kp a1 28 μ)
    · exact kI_to keep_r (X12_isSo_J47_kp a1 46 μ)
/-! ClockRiverModel.doOne -/
theorem X12_doOne_L119_kp {rec : Int32 → Int32 → sM → Option sM} (hrec : ∀ (a1 : Int32) (a2 : Int32) (μ : sM), kV pX μ (rec a1 a2 μ)) : ∀ (n : Nat) (v1 : Int32) (v2 : Int32) (v4 : Int32) (μ : sM), kV pX μ (X12_doOne_L119 rec n v1 v2 v4 μ) := by
  intro n
  induction n with
  | zero =>
    intros
    exact kV_none
  | succ n ih =>
    intro v1 v2 v4 μ
    unfold X12_doOne_L119
    refine kV_ck ?_
    refine kV_ite ?_ ?_
    · exact kV_some keep_r
    · refine kV_ite ?_ ?_
      · refine kV_ck ?_
        refine kV_bV keep_r (hrec (v1 + 1) (rI μ 61 0 (ix (v2 + 8))) μ) (fun μ2 h_μ2 => ?_)
        exact kV_to h_μ2 (ih v1 v2 (v4 + 1) μ2)
      · exact kV_some keep_r
theorem X12_doOne_J110_kp {rec : Int32 → Int32 → sM → Option sM} (hrec : ∀ (a1 : Int32) (a2 : Int32) (μ : sM), kV pX μ (rec a1 a2 μ)) (v1 : Int32) (v2 : Int32) (v3 : Int32) (μ : sM) : kV pX μ (X12_doOne_J110 rec v1 v2 v3 μ) := by
  unfold X12_doOne_J110
  refine kV_ite ?_ ?_
  · exact kV_to keep_r (X12_doOne_L119_kp hrec fuN v1 v2 0 μ)
  · refine kV_ite ?_ ?_
    · exact kV_some keep_r
    · exact kV_some (keep_wI rfl keep_r)
theorem X12_doOne__kp {rec : Int32 → Int32 → sM → Option sM} (hrec : ∀ (a1 : Int32) (a2 : Int32) (μ : sM), kV pX μ (rec a1 a2 μ)) (a1 : Int32) (μ : sM) : kV pX μ (X12_doOne_ rec a1 μ) := by
  unfold X12_doOne_
  refine kV_ite ?_ ?_
  · exact kV_some (keep_wI rfl (keep_wI rfl keep_r))
  · refine kV_ck ?_
    refine kV_ite ?_ ?_
    · refine kV_ite ?_ ?_
      · refine kV_bI (keep_wI rfl keep_r) (X12_isSo_kp (78 + (9 * a1)) (wI μ 13 0 43 ((rI μ 13 0 43) + 1))) (fun x1 μ2 h_μ2 => ?_)
        refine kV_ite ?_ ?_
        · exact kV_to h_μ2 (X12_doOne_J110_kp hrec a1 (78 + (9 * a1)) (rI μ 61 0 (ix (78 + (9 * a1)))) μ2)
        · refine kV_ck ?_
          refine kV_bV h_μ2 (hrec (a1 + 1) (rI μ2 61 0 (ix ((78 + (9 * a1)) + 8))) μ2) (fun μ4 h_μ4 => ?_)
          exact kV_some h_μ4
      · exact kV_to (keep_wI rfl keep_r) (X12_doOne_J110_kp hrec a1 (78 + (9 * a1)) (rI μ 61 0 (ix (78 + (9 * a1)))) (wI μ 13 0 43 ((rI μ 13 0 43) + 1)))
    · refine kV_bI (keep_wI rfl keep_r) (X12_does_kp (78 + (9 * a1)) (wI μ 13 0 43 ((rI μ 13 0 43) + 1))) (fun x5 μ6 h_μ6 => ?_)
      refine kV_ite ?_ ?_
      · exact kV_some (keep_wI rfl h_μ6)
      · exact kV_some (keep_wI rfl h_μ6)

/-! ClockRiverModel.doAll -/
theorem X12_doAll_L2_kp {rec : Int32 → sM → Option sM} (hrec : ∀ (a1 : Int32) (μ : sM), kV pX μ (rec a1 μ)) : ∀ (n : Nat) (v2 : Int32) (v3 : Int32) (μ : sM), kV pX μ (X12_doAll_L2 rec n v2 v3 μ) := by
  intro n
  induction n with
  | zero =>
    intros
    exact kV_none
  | succ n ih =>
    intro v2 v3 μ
    unfold X12_doAll_L2
    refine kV_ite ?_ ?_
    · exact kV_some keep_r
    · refine kV_ite ?_ ?_
      · refine kV_bV keep_r (hrec v3 μ) (fun μ2 h_μ2 => ?_)
        refine kV_ck ?_
        exact kV_to h_μ2 (ih v2 (rI μ2 61 0 (ix ((78 + (9 * v3)) + 8))) μ2)
      · exact kV_some keep_r
theorem X12_doAll__kp {rec : Int32 → sM → Option sM} (hrec : ∀ (a1 : Int32) (μ : sM), kV pX μ (rec a1 μ)) (a1 : Int32) (a2 : Int32) (μ : sM) : kV pX μ (X12_doAll_ rec a1 a2 μ) := by
  unfold X12_doAll_
  exact kV_to keep_r (X12_doAll_L2_kp hrec fuN a2 a1 μ)

theorem X12_doAllN_kp : ∀ (n : Nat) (a1 : Int32) (a2 : Int32) (μ : sM), kV pX μ (X12_doAllN n a1 a2 μ)
  | 0, _, _, _ => kV_none
  | n + 1, a1, a2, μ => X12_doAll__kp (fun a1 μ => X12_doOne__kp (fun a1 a2 μ => X12_doAllN_kp n a1 a2 μ) a1 μ) a1 a2 μ
theorem X12_doAll_kp (a1 : Int32) (a2 : Int32) (μ : sM) : kV pX μ (X12_doAll a1 a2 μ) := X12_doAllN_kp _ a1 a2 μ
/-! ClockRiverModel.runsWeeks -/
theorem X12_runsWeeks_kp (a1 : Int32) (μ : sM) : kV pX μ (X12_runsWeeks a1 μ) := by
  unfold X12_runsWeeks
  refine kV_bV (keep_wI rfl (keep_wI rfl (keep_wI rfl (keep_wI rfl (keep_wI rfl (keep_wI rfl (keep_wI rfl (keep_wI rfl keep_r)))))))) (X12_doAll_kp 0 (rI μ 61 0 77) (wI (wI (wI (wI (wI (wI (wI (wI μ 13 0 42 a1) 13 0 43 0) 13 0 44 0) 13 0 45 0) 13 0 46 0) 13 0 47 0) 13 0 48 0) 13 0 41 0)) (fun μ2 h_μ2 => ?_)
  exact kV_some h_μ2
/-! ClockRiverModel.live -/
theorem X12_live_kp (a1 : Int32) (μ : sM) : kI pX μ (X12_live a1 μ) := by
  unfold X12_live
  refine kI_bI (keep_wI rfl (keep_wI rfl keep_r)) (X12_isIn_kp (Int32.toInt64 a1) 0 9999 (wI (wI μ 13 0 1 0) 13 0 0 0)) (fun x1 μ2 h_μ2 => ?_)
  refine kI_ite ?_ ?_
  · refine kI_bI h_μ2 (X12_refuse_kp 5 μ2) (fun x7 μ8 h_μ8 => ?_)
    exact kI_some h_μ8
  · refine kI_ite ?_ ?_
    · refine kI_bI h_μ2 (X12_refuse_kp 8 μ2) (fun x5 μ6 h_μ6 => ?_)
      exact kI_some h_μ6
    · refine kI_bV h_μ2 (X12_runsWeeks_kp a1 μ2) (fun μ4 h_μ4 => ?_)
      exact kI_some (keep_wI rfl (keep_wI rfl (keep_wI rfl (keep_wI rfl (keep_wI rfl (keep_wI rfl h_μ4))))))
/-! ClockRiverModel.lived -/
theorem X12_lived_kp (a1 : Int32) (μ : sM) : kI pX μ (X12_lived a1 μ) := by
  unfold X12_lived
  refine kI_bI (keep_wI rfl (keep_wI rfl keep_r)) (X12_isIn_kp (Int32.toInt64 a1) 0 4 (wI (wI μ 13 0 1 0) 13 0 0 0)) (fun x1 μ2 h_μ2 => ?_)
  refine kI_ite ?_ ?_
  · refine kI_bI h_μ2 (X12_refuse_kp 5 μ2) (fun x5 μ6 h_μ6 => ?_)
    exact kI_some h_μ6
  · refine kI_ite ?_ ?_
    · refine kI_bI h_μ2 (X12_refuse_kp 8 μ2) (fun x3 μ4 h_μ4 => ?_)
      exact kI_some h_μ4
    · refine kI_ck ?_
      exact kI_some h_μ2
/-! ClockRiverModel.mean -/
theorem X12_mean_J37_kp (μ : sM) : kI pX μ (X12_mean_J37 μ) := by
  unfold X12_mean_J37
  refine kI_bI keep_r (X12_no_kp 5 μ) (fun x1 μ2 h_μ2 => ?_)
  refine kI_ck ?_
  exact kI_some h_μ2
theorem X12_mean_L116_kp {k91 : Int32 → Int32 → Int64 → Int32 → sM → Option (Int32 × sM)} (hk91 : ∀ (v1 : Int32) (v2 : Int32) (v3 : Int64) (v5 : Int32) (μ : sM), kI pX μ (k91 v1 v2 v3 v5 μ)) : ∀ (n : Nat) (v1 : Int32) (v2 : Int32) (v3 : Int64) (v5 : Int32) (v6 : Int32) (μ : sM), kI pX μ (X12_mean_L116 k91 n v1 v2 v3 v5 v6 μ) := by
  intro n
  induction n with
  | zero =>
    intros
    exact kI_none
  | succ n ih =>
    intro v1 v2 v3 v5 v6 μ
    unfold X12_mean_L116
    refine kI_ite ?_ ?_
    · exact kI_to keep_r (hk91 v1 v2 v3 (v5 + 1) μ)
    · refine kI_ck ?_
      refine kI_ck ?_
      exact kI_to (keep_wI rfl keep_r) (ih v1 v2 v3 v5 (v6 + 1) (wI μ 61 0 (ix v6) (rI μ 63 0 (ix v6))))
theorem X12_mean_L91_kp : ∀ (n : Nat) (v1 : Int32) (v2 : Int32) (v3 : Int64) (v5 : Int32) (μ : sM), kI pX μ (X12_mean_L91 n v1 v2 v3 v5 μ) := by
  intro n
  induction n with
  | zero =>
    intros
    exact kI_none
  | succ n ih =>
    intro v1 v2 v3 v5 μ
    unfold X12_mean_L91
    refine kI_ite ?_ ?_
    · refine kI_bI keep_r (X12_fraction_kp v3 (Int32.toInt64 v2) μ) (fun x1 μ2 h_μ2 => ?_)
      refine kI_ck ?_
      exact kI_some h_μ2
    · refine kI_bV keep_r (X12_runsWeeks_kp (v1 + v5) μ) (fun μ4 h_μ4 => ?_)
      refine kI_bI h_μ4 (X12_allGround_kp μ4) (fun x5 μ6 h_μ6 => ?_)
      exact kI_to h_μ6 (X12_mean_L116_kp ih fuN v1 v2 (v3 + (Int32.toInt64 x5)) v5 0 μ6)
theorem X12_mean_L62_kp : ∀ (n : Nat) (v1 : Int32) (v2 : Int32) (v3 : Int32) (μ : sM), kI pX μ (X12_mean_L62 n v1 v2 v3 μ) := by
  intro n
  induction n with
  | zero =>
    intros
    exact kI_none
  | succ n ih =>
    intro v1 v2 v3 μ
    unfold X12_mean_L62
    refine kI_ite ?_ ?_
    · exact kI_to keep_r (X12_mean_L91_kp fuN v1 v2 0 0 μ)
    · refine kI_ck ?_
      refine kI_ck ?_
      exact kI_to (keep_wI rfl keep_r) (ih v1 v2 (v3 + 1) (wI μ 63 0 (ix v3) (rI μ 61 0 (ix v3))))
theorem X12_mean_kp (a1 : Int32) (a2 : Int32) (μ : sM) : kI pX μ (X12_mean a1 a2 μ) := by
  unfold X12_mean
  refine kI_bI (keep_wI rfl (keep_wI rfl keep_r)) (X12_isIn_kp (Int32.toInt64 a2) 1 20 (wI (wI μ 13 0 1 0) 13 0 0 0)) (fun x1 μ2 h_μ2 => ?_)
  refine kI_ite ?_ ?_
  · exact kI_to h_μ2 (X12_mean_J37_kp μ2)
  · refine kI_bI h_μ2 (X12_isIn_kp (Int32.toInt64 a1) 0 (Int32.toInt64 (10000 - a2)) μ2) (fun x3 μ4 h_μ4 => ?_)
    refine kI_ite ?_ ?_
    · exact kI_to h_μ4 (X12_mean_J37_kp μ4)
    · refine kI_ite ?_ ?_
      · refine kI_bI h_μ4 (X12_no_kp 8 μ4) (fun x5 μ6 h_μ6 => ?_)
        refine kI_ck ?_
        exact kI_some h_μ6
      · exact kI_to h_μ4 (X12_mean_L62_kp fuN a1 a2 0 μ4)
/-! ClockRiverModel.mark -/
theorem X12_mark_kp (μ : sM) : kI pX μ (X12_mark μ) := by
  unfold X12_mark
  refine kI_ite ?_ ?_
  · refine kI_bI (keep_wI rfl (keep_wI rfl keep_r)) (X12_refuse_kp 7 (wI (wI μ 13 0 1 0) 13 0 0 0)) (fun x3 μ4 h_μ4 => ?_)
    exact kI_some h_μ4
  · refine kI_bV (keep_wI rfl (keep_wI rfl (keep_wI rfl keep_r))) (X12_copy_kp 0 ((rI μ 13 0 24) + 1) (wI (wI (wI μ 13 0 1 0) 13 0 0 0) 13 0 24 ((rI μ 13 0 24) + 1))) (fun μ2 h_μ2 => ?_)
    exact kI_some h_μ2
/-! ClockRiverModel.back -/
theorem X12_back_kp (μ : sM) : kI pX μ (X12_back μ) := by
  unfold X12_back
  refine kI_ite ?_ ?_
  · refine kI_bI (keep_wI rfl (keep_wI rfl keep_r)) (X12_refuse_kp 8 (wI (wI μ 13 0 1 0) 13 0 0 0)) (fun x3 μ4 h_μ4 => ?_)
    exact kI_some h_μ4
  · refine kI_bV (keep_wI rfl (keep_wI rfl keep_r)) (X12_copy_kp (rI μ 13 0 24) 0 (wI (wI μ 13 0 1 0) 13 0 0 0)) (fun μ2 h_μ2 => ?_)
    exact kI_some (keep_wI rfl h_μ2)
