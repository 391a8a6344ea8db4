/-! ClockRiver.status -/
theorem X11_status_kp (μ : sM) : kI pM μ (X11_status μ) := by
  unfold X11_status
  exact kI_some keep_r
/-! ClockRiver.top -/
theorem X11_top_kp (μ : sM) : kL pM μ (X11_top μ) := by
  unfold X11_top
  exact kL_some keep_r
/-! ClockRiver.bottom -/
theorem X11_bottom_kp (μ : sM) : kL pM μ (X11_bottom μ) := by
  unfold X11_bottom
  exact kL_some keep_r
/-! ClockRiver.deny -/
theorem X11_deny_kp (a1 : Int32) (μ : sM) : kI pM μ (X11_deny a1 μ) := by
  unfold X11_deny
  exact kI_some (keep_wI rfl keep_r)
/-! ClockRiver.grant -/
theorem X11_grant_kp (μ : sM) : kI pM μ (X11_grant μ) := by
  unfold X11_grant
  exact kI_some (keep_wI rfl keep_r)
/-! ClockRiver.tray -/
theorem X11_tray_J16_kp (μ : sM) : kI pM μ (X11_tray_J16 μ) := by
  unfold X11_tray_J16
  refine kI_bI keep_r (X11_deny_kp 1 μ) (fun x1 μ2 h_μ2 => ?_)
  refine kI_ck ?_
  exact kI_some h_μ2
theorem X11_tray_kp (a1 : Int32) (a2 : Int32) (a3 : Int32) (μ : sM) : kI pM μ (X11_tray a1 a2 a3 μ) := by
  unfold X11_tray
  refine kI_bI keep_r (X7_isTray_kp a1 μ) (fun x1 μ2 h_μ2 => ?_)
  refine kI_ite ?_ ?_
  · exact kI_to h_μ2 (X11_tray_J16_kp μ2)
  · refine kI_ite ?_ ?_
    · exact kI_to h_μ2 (X11_tray_J16_kp μ2)
    · refine kI_ite ?_ ?_
      · refine kI_ite ?_ ?_
        · refine kI_ite ?_ ?_
          · refine kI_bV h_μ2 (X7_renew_kp a1 a2 a3 μ2) (fun μ4 h_μ4 => ?_)
            refine kI_bI h_μ4 (X11_grant_kp μ4) (fun x5 μ6 h_μ6 => ?_)
            refine kI_ck ?_
            exact kI_some h_μ6
          · refine kI_bI h_μ2 (X11_deny_kp 6 μ2) (fun x7 μ8 h_μ8 => ?_)
            refine kI_ck ?_
            exact kI_some h_μ8
        · refine kI_bI h_μ2 (X11_deny_kp 5 μ2) (fun x9 μ10 h_μ10 => ?_)
          refine kI_ck ?_
          exact kI_some h_μ10
      · exact kI_to h_μ2 (X11_tray_J16_kp μ2)
/-! ClockRiver.write -/
theorem X11_write_kp (a1 : Int32) (a2 : Int32) (a3 : Int64) (μ : sM) : kI pM μ (X11_write a1 a2 a3 μ) := by
  unfold X11_write
  refine kI_bI keep_r (X7_whyNoPlace_kp a1 a2 μ) (fun x1 μ2 h_μ2 => ?_)
  refine kI_ite ?_ ?_
  · refine kI_bV h_μ2 (X7_put_kp a1 a2 a3 μ2) (fun μ4 h_μ4 => ?_)
    refine kI_bI h_μ4 (X11_grant_kp μ4) (fun x5 μ6 h_μ6 => ?_)
    refine kI_ck ?_
    exact kI_some h_μ6
  · refine kI_bI h_μ2 (X11_deny_kp x1 μ2) (fun x7 μ8 h_μ8 => ?_)
    refine kI_ck ?_
    exact kI_some h_μ8
/-! ClockRiver.refuse -/
theorem X11_refuse_kp (a1 : Int32) (μ : sM) : kI pM μ (X11_refuse a1 μ) := by
  unfold X11_refuse
  exact kI_some (keep_wI rfl keep_r)
/-! ClockRiver.read -/
theorem X11_read_kp (a1 : Int32) (a2 : Int32) (μ : sM) : kL pM μ (X11_read a1 a2 μ) := by
  unfold X11_read
  refine kL_bI keep_r (X7_whyNoPlace_kp a1 a2 μ) (fun x1 μ2 h_μ2 => ?_)
  refine kL_ite ?_ ?_
  · refine kL_ck ?_
    refine kL_ck ?_
    exact kL_some (keep_wI rfl h_μ2)
  · refine kL_bI h_μ2 (X11_refuse_kp x1 μ2) (fun x3 μ4 h_μ4 => ?_)
    exact kL_some h_μ4
/-! ClockRiver.pour -/
theorem X11_pour_J14_kp (μ : sM) : kI pM μ (X11_pour_J14 μ) := by
  unfold X11_pour_J14
  refine kI_bI keep_r (X11_deny_kp 1 μ) (fun x1 μ2 h_μ2 => ?_)
  refine kI_ck ?_
  exact kI_some h_μ2
theorem X11_pour_J42_kp (μ : sM) : kI pM μ (X11_pour_J42 μ) := by
  unfold X11_pour_J42
  refine kI_bI keep_r (X11_deny_kp 3 μ) (fun x1 μ2 h_μ2 => ?_)
  refine kI_ck ?_
  exact kI_some h_μ2
theorem X11_pour_J117_kp (μ : sM) : kI pM μ (X11_pour_J117 μ) := by
  unfold X11_pour_J117
  refine kI_bI keep_r (X11_deny_kp 4 μ) (fun x1 μ2 h_μ2 => ?_)
  refine kI_ck ?_
  exact kI_some h_μ2
theorem X11_pour_kp (a1 : Int32) (a2 : Int32) (a3 : Int32) (a4 : Int32) (a5 : Int32) (μ : sM) : kI pM μ (X11_pour a1 a2 a3 a4 a5 μ) := by
  unfold X11_pour
  refine kI_bI keep_r (X7_isTray_kp a1 μ) (fun x1 μ2 h_μ2 => ?_)
  refine kI_ite ?_ ?_
  · exact kI_to h_μ2 (X11_pour_J14_kp μ2)
  · refine kI_bI h_μ2 (X7_isTray_kp a3 μ2) (fun x3 μ4 h_μ4 => ?_)
    refine kI_ite ?_ ?_
    · exact kI_to h_μ4 (X11_pour_J14_kp μ4)
    · refine kI_bI h_μ4 (X7_isMissing_kp a1 μ4) (fun x5 μ6 h_μ6 => ?_)
      refine kI_ite ?_ ?_
      · refine kI_bI h_μ6 (X7_isMissing_kp a3 μ6) (fun x7 μ8 h_μ8 => ?_)
        refine kI_ite ?_ ?_
        · refine kI_ck ?_
          refine kI_ck ?_
          refine kI_ite ?_ ?_
          · refine kI_ite ?_ ?_
            · refine kI_bI h_μ8 (X7_hasRoom_kp a1 a2 a5 μ8) (fun x9 μ10 h_μ10 => ?_)
              refine kI_ite ?_ ?_
              · exact kI_to h_μ10 (X11_pour_J117_kp μ10)
              · refine kI_bI h_μ10 (X7_hasRoom_kp a3 a4 a5 μ10) (fun x11 μ12 h_μ12 => ?_)
                refine kI_ite ?_ ?_
                · exact kI_to h_μ12 (X11_pour_J117_kp μ12)
                · refine kI_ck ?_
                  refine kI_ck ?_
                  refine kI_ck ?_
                  refine kI_bI (keep_cL rfl h_μ12) (X11_grant_kp (cL μ12 40 (0 + (ix a1)) (ix a2) 40 (0 + (ix a3)) (ix a4) (ix a5))) (fun x13 μ14 h_μ14 => ?_)
                  refine kI_ck ?_
                  exact kI_some h_μ14
            · refine kI_bI h_μ8 (X11_deny_kp 6 μ8) (fun x15 μ16 h_μ16 => ?_)
              refine kI_ck ?_
              exact kI_some h_μ16
          · refine kI_bI h_μ8 (X11_deny_kp 11 μ8) (fun x17 μ18 h_μ18 => ?_)
            refine kI_ck ?_
            exact kI_some h_μ18
        · exact kI_to h_μ8 (X11_pour_J42_kp μ8)
      · exact kI_to h_μ6 (X11_pour_J42_kp μ6)
/-! ClockRiver.feed -/
theorem X11_feed_kp (a1 : Int32) (a2 : Int32) (a3 : Int32) (a4 : Int32) (a5 : Int32) (μ : sM) : kI pM μ (X11_feed a1 a2 a3 a4 a5 μ) := by
  unfold X11_feed
  refine kI_ite ?_ ?_
  · refine kI_bV keep_r (X6_append_kp a1 μ) (fun μ2 h_μ2 => ?_)
    refine kI_bV h_μ2 (X6_append_kp a2 μ2) (fun μ4 h_μ4 => ?_)
    refine kI_bV h_μ4 (X6_append_kp a3 μ4) (fun μ6 h_μ6 => ?_)
    refine kI_bV h_μ6 (X6_append_kp a4 μ6) (fun μ8 h_μ8 => ?_)
    refine kI_bV h_μ8 (X6_append_kp a5 μ8) (fun μ10 h_μ10 => ?_)
    exact kI_some h_μ10
  · exact kI_some keep_r
/-! ClockRiver.give -/
theorem X11_give_kp (a1 : Int32) (μ : sM) : kI pM μ (X11_give a1 μ) := by
  unfold X11_give
  exact kI_some (keep_wI rfl keep_r)
/-! ClockRiver.river -/
theorem X11_river_J15_kp (μ : sM) : kI pM μ (X11_river_J15 μ) := by
  unfold X11_river_J15
  refine kI_bI keep_r (X11_refuse_kp 5 μ) (fun x1 μ2 h_μ2 => ?_)
  exact kI_some h_μ2
theorem X11_river_kp (a1 : Int32) (μ : sM) : kI pM μ (X11_river a1 μ) := by
  unfold X11_river
  refine kI_ite ?_ ?_
  · exact kI_to keep_r (X11_river_J15_kp μ)
  · refine kI_ite ?_ ?_
    · refine kI_bV keep_r (X6_begin_kp a1 μ) (fun μ2 h_μ2 => ?_)
      refine kI_bA h_μ2 (X0_spare_kp μ2) (fun x3 μ4 h_μ4 => ?_)
      refine kI_bI h_μ4 (X5_readInto_kp x3 μ4) (fun x5 μ6 h_μ6 => ?_)
      refine kI_ite ?_ ?_
      · refine kI_bI h_μ6 (X11_refuse_kp 10 μ6) (fun x13 μ14 h_μ14 => ?_)
        exact kI_some h_μ14
      · refine kI_bV h_μ6 (X4_copyFrom_kp 0 x3 μ6) (fun μ8 h_μ8 => ?_)
        refine kI_bV h_μ8 (X8_forget_kp 0 μ8) (fun μ10 h_μ10 => ?_)
        refine kI_bI h_μ10 (X11_give_kp (rI μ10 4 0 0) μ10) (fun x11 μ12 h_μ12 => ?_)
        exact kI_some h_μ12
    · exact kI_to keep_r (X11_river_J15_kp μ)
/-! ClockRiver.weeks -/
theorem X11_weeks_J22_kp (μ : sM) : kI pM μ (X11_weeks_J22 μ) := by
  unfold X11_weeks_J22
  refine kI_bI keep_r (X11_refuse_kp 5 μ) (fun x1 μ2 h_μ2 => ?_)
  exact kI_some h_μ2
theorem X11_weeks_kp (a1 : Int32) (μ : sM) : kI pM μ (X11_weeks a1 μ) := by
  unfold X11_weeks
  refine kI_ite ?_ ?_
  · exact kI_to keep_r (X11_weeks_J22_kp μ)
  · refine kI_ite ?_ ?_
    · exact kI_to keep_r (X11_weeks_J22_kp μ)
    · refine kI_ite ?_ ?_
      · refine kI_bV keep_r (X6_begin_kp a1 μ) (fun μ2 h_μ2 => ?_)
        refine kI_bI h_μ2 (X9_readFor_kp 0 μ2) (fun x3 μ4 h_μ4 => ?_)
        refine kI_ite ?_ ?_
        · refine kI_bI h_μ4 (X11_refuse_kp 10 μ4) (fun x9 μ10 h_μ10 => ?_)
          exact kI_some h_μ10
        · refine kI_bV h_μ4 (X8_copyFrom_kp 0 4 μ4) (fun μ6 h_μ6 => ?_)
          refine kI_bI h_μ6 (X11_give_kp (rI μ6 9 0 1) μ6) (fun x7 μ8 h_μ8 => ?_)
          exact kI_some h_μ8
      · exact kI_to keep_r (X11_weeks_J22_kp μ)
/-! ClockRiver.fault -/
theorem X11_fault_kp (a1 : Int32) (μ : sM) : kI pM μ (X11_fault a1 μ) := by
  unfold X11_fault
  refine kI_ite ?_ ?_
  · exact kI_some keep_r
  refine kI_ite ?_ ?_
  · exact kI_some keep_r
  exact kI_some keep_r
/-! ClockRiver.many -/
theorem X11_many_J10_kp (μ : sM) : kI pM μ (X11_many_J10 μ) := by
  unfold X11_many_J10
  refine kI_bI keep_r (X11_refuse_kp 5 μ) (fun x1 μ2 h_μ2 => ?_)
  exact kI_some h_μ2
theorem X11_many_kp (a1 : Int32) (μ : sM) : kI pM μ (X11_many a1 μ) := by
  unfold X11_many
  refine kI_ite ?_ ?_
  · exact kI_to keep_r (X11_many_J10_kp μ)
  · refine kI_ite ?_ ?_
    · refine kI_bI keep_r (X4_figure_kp 0 a1 μ) (fun x1 μ2 h_μ2 => ?_)
      refine kI_bI h_μ2 (X11_give_kp x1 μ2) (fun x3 μ4 h_μ4 => ?_)
      exact kI_some h_μ4
    · exact kI_to keep_r (X11_many_J10_kp μ)
/-! ClockRiver.turnsLeft -/
theorem X11_turnsLeft_kp (μ : sM) : kI pM μ (X11_turnsLeft μ) := by
  unfold X11_turnsLeft
  refine kI_bI keep_r (X11_give_kp (rI μ 5 0 0) μ) (fun x1 μ2 h_μ2 => ?_)
  exact kI_some h_μ2
/-! ClockRiver.water -/
theorem X11_water_J10_kp (μ : sM) : kL pM μ (X11_water_J10 μ) := by
  unfold X11_water_J10
  refine kL_bI keep_r (X11_refuse_kp 5 μ) (fun x1 μ2 h_μ2 => ?_)
  exact kL_some h_μ2
theorem X11_water_kp (a1 : Int32) (μ : sM) : kL pM μ (X11_water a1 μ) := by
  unfold X11_water
  refine kL_ite ?_ ?_
  · exact kL_to keep_r (X11_water_J10_kp μ)
  · refine kL_ite ?_ ?_
    · refine kL_ck ?_
      exact kL_some (keep_wI rfl keep_r)
    · exact kL_to keep_r (X11_water_J10_kp μ)
/-! ClockRiver.reach -/
theorem X11_reach_kp (a1 : Int32) (a2 : Int32) (μ : sM) : kI pM μ (X11_reach a1 a2 μ) := by
  unfold X11_reach
  refine kI_bI keep_r (X4_hasReach_kp 0 a1 μ) (fun x1 μ2 h_μ2 => ?_)
  refine kI_ite ?_ ?_
  · refine kI_bI h_μ2 (X11_refuse_kp 2 μ2) (fun x17 μ18 h_μ18 => ?_)
    exact kI_some h_μ18
  · refine kI_ite ?_ ?_
    · refine kI_ck ?_
      refine kI_bI h_μ2 (X11_give_kp (rI μ2 29 0 (ix a1)) μ2) (fun x3 μ4 h_μ4 => ?_)
      exact kI_some h_μ4
    refine kI_ite ?_ ?_
    · refine kI_ck ?_
      refine kI_bI h_μ2 (X11_give_kp (rI μ2 30 0 (ix a1)) μ2) (fun x5 μ6 h_μ6 => ?_)
      exact kI_some h_μ6
    refine kI_ite ?_ ?_
    · refine kI_ck ?_
      refine kI_bI h_μ2 (X11_give_kp (rI μ2 31 0 (ix a1)) μ2) (fun x7 μ8 h_μ8 => ?_)
      exact kI_some h_μ8
    refine kI_ite ?_ ?_
    · refine kI_ck ?_
      refine kI_ck ?_
      refine kI_bI h_μ2 (X11_give_kp (imn (rI μ2 31 0 (ix a1)) (rI μ2 30 0 (ix a1))) μ2) (fun x9 μ10 h_μ10 => ?_)
      exact kI_some h_μ10
    refine kI_ite ?_ ?_
    · refine kI_bI h_μ2 (X2_countAt_kp 0 a1 μ2) (fun x11 μ12 h_μ12 => ?_)
      refine kI_bI h_μ12 (X11_give_kp x11 μ12) (fun x13 μ14 h_μ14 => ?_)
      exact kI_some h_μ14
    refine kI_bI h_μ2 (X11_refuse_kp 5 μ2) (fun x15 μ16 h_μ16 => ?_)
    exact kI_some h_μ16
/-! ClockRiver.mill -/
theorem X11_mill_kp (a1 : Int32) (a2 : Int32) (μ : sM) : kI pM μ (X11_mill a1 a2 μ) := by
  unfold X11_mill
  refine kI_bI keep_r (X4_hasMill_kp 0 a1 μ) (fun x1 μ2 h_μ2 => ?_)
  refine kI_ite ?_ ?_
  · refine kI_bI h_μ2 (X11_refuse_kp 2 μ2) (fun x11 μ12 h_μ12 => ?_)
    exact kI_some h_μ12
  · refine kI_ite ?_ ?_
    · refine kI_ck ?_
      refine kI_bI h_μ2 (X11_give_kp (rI μ2 25 0 (ix a1)) μ2) (fun x3 μ4 h_μ4 => ?_)
      exact kI_some h_μ4
    refine kI_ite ?_ ?_
    · refine kI_ck ?_
      refine kI_bI h_μ2 (X11_give_kp (rI μ2 26 0 (ix a1)) μ2) (fun x5 μ6 h_μ6 => ?_)
      exact kI_some h_μ6
    refine kI_ite ?_ ?_
    · refine kI_ck ?_
      refine kI_bI h_μ2 (X11_give_kp (rI μ2 27 0 (ix a1)) μ2) (fun x7 μ8 h_μ8 => ?_)
      exact kI_some h_μ8
    refine kI_bI h_μ2 (X11_refuse_kp 5 μ2) (fun x9 μ10 h_μ10 => ?_)
    exact kI_some h_μ10
/-! ClockRiver.winder -/
theorem X11_winder_kp (a1 : Int32) (a2 : Int32) (μ : sM) : kI pM μ (X11_winder a1 a2 μ) := by
  unfold X11_winder
  refine kI_bI keep_r (X4_hasWinder_kp 0 a1 μ) (fun x1 μ2 h_μ2 => ?_)
  refine kI_ite ?_ ?_
  · refine kI_bI h_μ2 (X11_refuse_kp 2 μ2) (fun x13 μ14 h_μ14 => ?_)
    exact kI_some h_μ14
  · refine kI_ite ?_ ?_
    · refine kI_ck ?_
      refine kI_bI h_μ2 (X11_give_kp (rI μ2 51 0 (ix a1)) μ2) (fun x3 μ4 h_μ4 => ?_)
      exact kI_some h_μ4
    refine kI_ite ?_ ?_
    · refine kI_ck ?_
      refine kI_bI h_μ2 (X11_give_kp (rI μ2 52 0 (ix a1)) μ2) (fun x5 μ6 h_μ6 => ?_)
      exact kI_some h_μ6
    refine kI_ite ?_ ?_
    · refine kI_ck ?_
      refine kI_bI h_μ2 (X11_give_kp (rI μ2 53 0 (ix a1)) μ2) (fun x7 μ8 h_μ8 => ?_)
      exact kI_some h_μ8
    refine kI_ite ?_ ?_
    · refine kI_ck ?_
      refine kI_bI h_μ2 (X11_give_kp (rI μ2 54 0 (ix a1)) μ2) (fun x9 μ10 h_μ10 => ?_)
      exact kI_some h_μ10
    refine kI_bI h_μ2 (X11_refuse_kp 5 μ2) (fun x11 μ12 h_μ12 => ?_)
    exact kI_some h_μ12
/-! ClockRiver.copyStored -/
theorem X11_copyStored_L62_kp : ∀ (n : Nat) (v1 : Int32) (v2 : Int32) (v3 : Int32) (μ : sM), kI pM μ (X11_copyStored_L62 n v1 v2 v3 μ) := by
  intro n
  induction n with
  | zero =>
    intros
    exact kI_none
  | succ n ih =>
    intro v1 v2 v3 μ
    unfold X11_copyStored_L62
    refine kI_ite ?_ ?_
    · refine kI_bI keep_r (X11_give_kp v2 μ) (fun x1 μ2 h_μ2 => ?_)
      exact kI_some h_μ2
    · refine kI_ck ?_
      refine kI_bV keep_r (X7_put_kp v1 v3 (Int32.toInt64 (rI μ 31 0 (ix v3))) μ) (fun μ4 h_μ4 => ?_)
      exact kI_to h_μ4 (ih v1 v2 (v3 + 1) μ4)
theorem X11_copyStored_kp (a1 : Int32) (μ : sM) : kI pM μ (X11_copyStored a1 μ) := by
  unfold X11_copyStored
  refine kI_bI keep_r (X7_isTray_kp a1 μ) (fun x1 μ2 h_μ2 => ?_)
  refine kI_ite ?_ ?_
  · refine kI_bI h_μ2 (X11_refuse_kp 1 μ2) (fun x9 μ10 h_μ10 => ?_)
    exact kI_some h_μ10
  · refine kI_bI h_μ2 (X7_isMissing_kp a1 μ2) (fun x3 μ4 h_μ4 => ?_)
    refine kI_ite ?_ ?_
    · refine kI_ck ?_
      refine kI_ite ?_ ?_
      · exact kI_to h_μ4 (X11_copyStored_L62_kp fuN a1 (rI μ4 4 0 0) 0 μ4)
      · refine kI_bI h_μ4 (X11_refuse_kp 4 μ4) (fun x5 μ6 h_μ6 => ?_)
        exact kI_some h_μ6
    · refine kI_bI h_μ4 (X11_refuse_kp 3 μ4) (fun x7 μ8 h_μ8 => ?_)
      exact kI_some h_μ8
/-! ClockRiver.hour -/
theorem X11_hour_J12_kp (μ : sM) : kI pM μ (X11_hour_J12 μ) := by
  unfold X11_hour_J12
  refine kI_bI keep_r (X11_refuse_kp 5 μ) (fun x1 μ2 h_μ2 => ?_)
  exact kI_some h_μ2
theorem X11_hour_kp (a1 : Int32) (μ : sM) : kI pM μ (X11_hour a1 μ) := by
  unfold X11_hour
  refine kI_ite ?_ ?_
  · exact kI_to keep_r (X11_hour_J12_kp μ)
  · refine kI_ite ?_ ?_
    · refine kI_bI keep_r (X4_hasHours_kp 0 a1 μ) (fun x1 μ2 h_μ2 => ?_)
      refine kI_ite ?_ ?_
      · refine kI_bI h_μ2 (X11_refuse_kp 7 μ2) (fun x7 μ8 h_μ8 => ?_)
        exact kI_some h_μ8
      · refine kI_bI h_μ2 (X4_passHours_kp 0 a1 μ2) (fun x3 μ4 h_μ4 => ?_)
        refine kI_bI h_μ4 (X11_give_kp x3 μ4) (fun x5 μ6 h_μ6 => ?_)
        exact kI_some h_μ6
    · exact kI_to keep_r (X11_hour_J12_kp μ)
/-! ClockRiver.wind -/
theorem X11_wind_kp (a1 : Int32) (a2 : Int32) (μ : sM) : kI pM μ (X11_wind a1 a2 μ) := by
  unfold X11_wind
  refine kI_bI keep_r (X4_hasWinder_kp 0 a1 μ) (fun x1 μ2 h_μ2 => ?_)
  refine kI_ite ?_ ?_
  · refine kI_bI h_μ2 (X11_refuse_kp 2 μ2) (fun x11 μ12 h_μ12 => ?_)
    exact kI_some h_μ12
  · refine kI_bI h_μ2 (X4_isLawDay_kp 0 μ2) (fun x3 μ4 h_μ4 => ?_)
    refine kI_ite ?_ ?_
    · refine kI_bV h_μ4 (X4_letWind_kp 0 a1 a2 μ4) (fun μ6 h_μ6 => ?_)
      refine kI_bI h_μ6 (X11_give_kp (rI μ6 5 0 0) μ6) (fun x7 μ8 h_μ8 => ?_)
      exact kI_some h_μ8
    · refine kI_bI h_μ4 (X11_refuse_kp 9 μ4) (fun x9 μ10 h_μ10 => ?_)
      exact kI_some h_μ10
/-! ClockRiver.oil -/
theorem X11_oil_kp (μ : sM) : kI pM μ (X11_oil μ) := by
  unfold X11_oil
  refine kI_bI (keep_wI rfl keep_r) (X11_give_kp 12 (wI μ 5 0 5 12)) (fun x1 μ2 h_μ2 => ?_)
  exact kI_some h_μ2
/-! ClockRiver.gate -/
theorem X11_gate_J27_kp (μ : sM) : kI pM μ (X11_gate_J27 μ) := by
  unfold X11_gate_J27
  refine kI_bI keep_r (X11_refuse_kp 5 μ) (fun x1 μ2 h_μ2 => ?_)
  exact kI_some h_μ2
theorem X11_gate_kp (a1 : Int32) (a2 : Int32) (μ : sM) : kI pM μ (X11_gate a1 a2 μ) := by
  unfold X11_gate
  refine kI_bI keep_r (X4_hasReach_kp 0 a1 μ) (fun x1 μ2 h_μ2 => ?_)
  refine kI_ite ?_ ?_
  · refine kI_bI h_μ2 (X11_refuse_kp 2 μ2) (fun x7 μ8 h_μ8 => ?_)
    exact kI_some h_μ8
  · refine kI_ite ?_ ?_
    · exact kI_to h_μ2 (X11_gate_J27_kp μ2)
    · refine kI_ite ?_ ?_
      · refine kI_ck ?_
        refine kI_ite ?_ ?_
        · refine kI_bI h_μ2 (X11_refuse_kp 9 μ2) (fun x5 μ6 h_μ6 => ?_)
          exact kI_some h_μ6
        · refine kI_ck ?_
          refine kI_bI (keep_wI rfl h_μ2) (X11_give_kp (rI μ2 30 0 (ix a1)) (wI μ2 30 0 (ix a1) a2)) (fun x3 μ4 h_μ4 => ?_)
          exact kI_some h_μ4
      · exact kI_to h_μ2 (X11_gate_J27_kp μ2)
/-! ClockRiver.rain -/
theorem X11_rain_kp (a1 : Int32) (μ : sM) : kI pM μ (X11_rain a1 μ) := by
  unfold X11_rain
  refine kI_ite ?_ ?_
  · refine kI_bI keep_r (X11_deny_kp 9 μ) (fun x3 μ4 h_μ4 => ?_)
    refine kI_ck ?_
    exact kI_some h_μ4
  · refine kI_ck ?_
    refine kI_bI (keep_wI rfl keep_r) (X11_grant_kp (wI μ 5 0 6 a1)) (fun x1 μ2 h_μ2 => ?_)
    refine kI_ck ?_
    exact kI_some h_μ2
/-! ClockRiver.bring -/
theorem X11_bring_J35_kp (μ : sM) : kI pM μ (X11_bring_J35 μ) := by
  unfold X11_bring_J35
  refine kI_bI keep_r (X11_refuse_kp 5 μ) (fun x1 μ2 h_μ2 => ?_)
  exact kI_some h_μ2
theorem X11_bring_kp (a1 : Int32) (a2 : Int32) (μ : sM) : kI pM μ (X11_bring a1 a2 μ) := by
  unfold X11_bring
  refine kI_bI keep_r (X4_hasReach_kp 0 a1 μ) (fun x1 μ2 h_μ2 => ?_)
  refine kI_ite ?_ ?_
  · refine kI_bI h_μ2 (X11_refuse_kp 2 μ2) (fun x9 μ10 h_μ10 => ?_)
    exact kI_some h_μ10
  · refine kI_ite ?_ ?_
    · exact kI_to h_μ2 (X11_bring_J35_kp μ2)
    · refine kI_ite ?_ ?_
      · exact kI_to h_μ2 (X11_bring_J35_kp μ2)
      · refine kI_ite ?_ ?_
        · refine kI_ck ?_
          refine kI_ite ?_ ?_
          · refine kI_ck ?_
            refine kI_ck ?_
            refine kI_bI (keep_wI rfl h_μ2) (X3_spill_kp 0 (wI μ2 31 0 (ix a1) ((rI μ2 31 0 (ix a1)) + a2))) (fun x3 μ4 h_μ4 => ?_)
            refine kI_ck ?_
            refine kI_bI (keep_wL rfl h_μ4) (X11_give_kp (rI μ4 31 0 (ix a1)) (wL μ4 34 0 3 ((rL μ2 34 0 3) + (Int32.toInt64 x3)))) (fun x5 μ6 h_μ6 => ?_)
            exact kI_some h_μ6
          · refine kI_bI h_μ2 (X11_refuse_kp 9 μ2) (fun x7 μ8 h_μ8 => ?_)
            exact kI_some h_μ8
        · exact kI_to h_μ2 (X11_bring_J35_kp μ2)
/-! ClockRiver.mostOfRule -/
theorem X11_mostOfRule_kp (a0 : Int32) (μ : sM) : kI pM μ (X11_mostOfRule a0 μ) := by
  unfold X11_mostOfRule
  refine kI_ite ?_ ?_
  · exact kI_some keep_r
  refine kI_ite ?_ ?_
  · exact kI_some keep_r
  refine kI_ite ?_ ?_
  · exact kI_some keep_r
  exact kI_some keep_r
/-! ClockRiver.rule -/
theorem X11_rule_J12_kp (μ : sM) : kI pM μ (X11_rule_J12 μ) := by
  unfold X11_rule_J12
  refine kI_bI keep_r (X11_deny_kp 5 μ) (fun x1 μ2 h_μ2 => ?_)
  refine kI_ck ?_
  exact kI_some h_μ2
theorem X11_rule_J58_kp (μ : sM) : kI pM μ (X11_rule_J58 μ) := by
  unfold X11_rule_J58
  refine kI_bI keep_r (X11_grant_kp μ) (fun x1 μ2 h_μ2 => ?_)
  refine kI_ck ?_
  exact kI_some h_μ2
theorem X11_rule_kp (a1 : Int32) (a2 : Int32) (μ : sM) : kI pM μ (X11_rule a1 a2 μ) := by
  unfold X11_rule
  refine kI_ite ?_ ?_
  · exact kI_to keep_r (X11_rule_J12_kp μ)
  · refine kI_bI keep_r (X11_mostOfRule_kp a1 μ) (fun x1 μ2 h_μ2 => ?_)
    refine kI_ite ?_ ?_
    · refine kI_ite ?_ ?_
      · exact kI_to (keep_wI rfl h_μ2) (X11_rule_J58_kp (wI μ2 5 0 1 a2))
      · refine kI_ite ?_ ?_
        · exact kI_to (keep_wI rfl h_μ2) (X11_rule_J58_kp (wI μ2 5 0 2 a2))
        · exact kI_to (keep_wI rfl h_μ2) (X11_rule_J58_kp (wI μ2 5 0 3 a2))
    · exact kI_to h_μ2 (X11_rule_J12_kp μ2)
/-! ClockRiver.build -/
theorem X11_build_J28_kp (μ : sM) : kI pM μ (X11_build_J28 μ) := by
  unfold X11_build_J28
  refine kI_bI keep_r (X11_refuse_kp 5 μ) (fun x1 μ2 h_μ2 => ?_)
  exact kI_some h_μ2
theorem X11_build_kp (a1 : Int32) (a2 : Int32) (μ : sM) : kI pM μ (X11_build a1 a2 μ) := by
  unfold X11_build
  refine kI_bI keep_r (X4_hasReach_kp 0 a1 μ) (fun x1 μ2 h_μ2 => ?_)
  refine kI_ite ?_ ?_
  · refine kI_bI h_μ2 (X11_refuse_kp 2 μ2) (fun x9 μ10 h_μ10 => ?_)
    exact kI_some h_μ10
  · refine kI_ite ?_ ?_
    · exact kI_to h_μ2 (X11_build_J28_kp μ2)
    · refine kI_ite ?_ ?_
      · refine kI_ite ?_ ?_
        · refine kI_bV h_μ2 (X2_add_kp 0 0 a1 a2 μ2) (fun μ4 h_μ4 => ?_)
          refine kI_bI h_μ4 (X11_give_kp ((rI μ4 3 0 0) - 1) μ4) (fun x5 μ6 h_μ6 => ?_)
          exact kI_some h_μ6
        · refine kI_bI h_μ2 (X11_refuse_kp 7 μ2) (fun x7 μ8 h_μ8 => ?_)
          exact kI_some h_μ8
      · exact kI_to h_μ2 (X11_build_J28_kp μ2)
/-! ClockRiver.train -/
theorem X11_train_J28_kp (μ : sM) : kI pM μ (X11_train_J28 μ) := by
  unfold X11_train_J28
  refine kI_bI keep_r (X11_deny_kp 5 μ) (fun x1 μ2 h_μ2 => ?_)
  refine kI_ck ?_
  exact kI_some h_μ2
theorem X11_train_kp (a1 : Int32) (a2 : Int32) (μ : sM) : kI pM μ (X11_train a1 a2 μ) := by
  unfold X11_train
  refine kI_bI keep_r (X4_hasWinder_kp 0 a1 μ) (fun x1 μ2 h_μ2 => ?_)
  refine kI_ite ?_ ?_
  · refine kI_bI h_μ2 (X11_deny_kp 2 μ2) (fun x5 μ6 h_μ6 => ?_)
    refine kI_ck ?_
    exact kI_some h_μ6
  · refine kI_ite ?_ ?_
    · exact kI_to h_μ2 (X11_train_J28_kp μ2)
    · refine kI_ite ?_ ?_
      · refine kI_ck ?_
        refine kI_bI (keep_wI rfl h_μ2) (X11_grant_kp (wI μ2 51 0 (ix a1) a2)) (fun x3 μ4 h_μ4 => ?_)
        refine kI_ck ?_
        exact kI_some h_μ4
      · exact kI_to h_μ2 (X11_train_J28_kp μ2)
/-! ClockRiver.isTooFar -/
theorem X11_isTooFar_kp (a0 : Int32) (μ : sM) : kI pM μ (X11_isTooFar a0 μ) := by
  unfold X11_isTooFar
  refine kI_ite ?_ ?_
  · exact kI_some keep_r
  · refine kI_ite ?_ ?_
    · exact kI_some keep_r
    · exact kI_some keep_r
/-! ClockRiver.turnsIn -/
theorem X11_turnsIn_kp (a1 : Int32) (μ : sM) : kI pM μ (X11_turnsIn a1 μ) := by
  unfold X11_turnsIn
  refine kI_bI keep_r (X11_isTooFar_kp a1 μ) (fun x1 μ2 h_μ2 => ?_)
  refine kI_ite ?_ ?_
  · refine kI_bA h_μ2 (X0_later_kp 0 a1 μ2) (fun x3 μ4 h_μ4 => ?_)
    refine kI_bI h_μ4 (X11_give_kp (rI μ4 5 x3 0) μ4) (fun x5 μ6 h_μ6 => ?_)
    exact kI_some h_μ6
  · refine kI_bI h_μ2 (X11_refuse_kp 5 μ2) (fun x7 μ8 h_μ8 => ?_)
    exact kI_some h_μ8
/-! ClockRiver.storedIn -/
theorem X11_storedIn_kp (a1 : Int32) (a2 : Int32) (μ : sM) : kI pM μ (X11_storedIn a1 a2 μ) := by
  unfold X11_storedIn
  refine kI_bI keep_r (X4_hasReach_kp 0 a1 μ) (fun x1 μ2 h_μ2 => ?_)
  refine kI_ite ?_ ?_
  · refine kI_bI h_μ2 (X11_refuse_kp 2 μ2) (fun x11 μ12 h_μ12 => ?_)
    exact kI_some h_μ12
  · refine kI_bI h_μ2 (X11_isTooFar_kp a2 μ2) (fun x3 μ4 h_μ4 => ?_)
    refine kI_ite ?_ ?_
    · refine kI_bA h_μ4 (X0_later_kp 0 a2 μ4) (fun x5 μ6 h_μ6 => ?_)
      refine kI_ck ?_
      refine kI_bI h_μ6 (X11_give_kp (rI μ6 31 x5 (ix a1)) μ6) (fun x7 μ8 h_μ8 => ?_)
      exact kI_some h_μ8
    · refine kI_bI h_μ4 (X11_refuse_kp 5 μ4) (fun x9 μ10 h_μ10 => ?_)
      exact kI_some h_μ10
/-! ClockRiver.groundIn -/
theorem X11_groundIn_kp (a1 : Int32) (a2 : Int32) (μ : sM) : kI pM μ (X11_groundIn a1 a2 μ) := by
  unfold X11_groundIn
  refine kI_bI keep_r (X4_hasMill_kp 0 a1 μ) (fun x1 μ2 h_μ2 => ?_)
  refine kI_ite ?_ ?_
  · refine kI_bI h_μ2 (X11_refuse_kp 2 μ2) (fun x11 μ12 h_μ12 => ?_)
    exact kI_some h_μ12
  · refine kI_bI h_μ2 (X11_isTooFar_kp a2 μ2) (fun x3 μ4 h_μ4 => ?_)
    refine kI_ite ?_ ?_
    · refine kI_bA h_μ4 (X0_later_kp 0 a2 μ4) (fun x5 μ6 h_μ6 => ?_)
      refine kI_ck ?_
      refine kI_ck ?_
      refine kI_bI h_μ6 (X11_give_kp ((rI μ6 27 x5 (ix a1)) - (rI μ6 27 0 (ix a1))) μ6) (fun x7 μ8 h_μ8 => ?_)
      exact kI_some h_μ8
    · refine kI_bI h_μ4 (X11_refuse_kp 5 μ4) (fun x9 μ10 h_μ10 => ?_)
      exact kI_some h_μ10
/-! ClockRiver.seaIn -/
theorem X11_seaIn_kp (a1 : Int32) (μ : sM) : kL pM μ (X11_seaIn a1 μ) := by
  unfold X11_seaIn
  refine kL_bI keep_r (X11_isTooFar_kp a1 μ) (fun x1 μ2 h_μ2 => ?_)
  refine kL_ite ?_ ?_
  · refine kL_bA (keep_wI rfl h_μ2) (X0_later_kp 0 a1 (wI μ2 12 0 0 0)) (fun x3 μ4 h_μ4 => ?_)
    exact kL_some h_μ4
  · refine kL_bI h_μ2 (X11_refuse_kp 5 μ2) (fun x5 μ6 h_μ6 => ?_)
    exact kL_some h_μ6
/-! ClockRiver.giveIfAny -/
theorem X11_giveIfAny_kp (a1 : Int32) (μ : sM) : kI pM μ (X11_giveIfAny a1 μ) := by
  unfold X11_giveIfAny
  refine kI_ite ?_ ?_
  · refine kI_bI keep_r (X11_refuse_kp 8 μ) (fun x3 μ4 h_μ4 => ?_)
    exact kI_some h_μ4
  · refine kI_bI keep_r (X11_give_kp a1 μ) (fun x1 μ2 h_μ2 => ?_)
    exact kI_some h_μ2
/-! ClockRiver.dryIn -/
theorem X11_dryIn_kp (a1 : Int32) (μ : sM) : kI pM μ (X11_dryIn a1 μ) := by
  unfold X11_dryIn
  refine kI_bI keep_r (X4_hasReach_kp 0 a1 μ) (fun x1 μ2 h_μ2 => ?_)
  refine kI_ite ?_ ?_
  · refine kI_bI h_μ2 (X11_refuse_kp 2 μ2) (fun x7 μ8 h_μ8 => ?_)
    exact kI_some h_μ8
  · refine kI_bI h_μ2 (X0_hoursTillDry_kp 0 a1 μ2) (fun x3 μ4 h_μ4 => ?_)
    refine kI_bI h_μ4 (X11_giveIfAny_kp x3 μ4) (fun x5 μ6 h_μ6 => ?_)
    exact kI_some h_μ6
/-! ClockRiver.floodIn -/
theorem X11_floodIn_kp (a1 : Int32) (μ : sM) : kI pM μ (X11_floodIn a1 μ) := by
  unfold X11_floodIn
  refine kI_bI keep_r (X4_hasReach_kp 0 a1 μ) (fun x1 μ2 h_μ2 => ?_)
  refine kI_ite ?_ ?_
  · refine kI_bI h_μ2 (X11_refuse_kp 2 μ2) (fun x7 μ8 h_μ8 => ?_)
    exact kI_some h_μ8
  · refine kI_bI h_μ2 (X0_hoursTillFlood_kp 0 a1 μ2) (fun x3 μ4 h_μ4 => ?_)
    refine kI_bI h_μ4 (X11_giveIfAny_kp x3 μ4) (fun x5 μ6 h_μ6 => ?_)
    exact kI_some h_μ6
/-! ClockRiver.stillIn -/
theorem X11_stillIn_kp (μ : sM) : kI pM μ (X11_stillIn μ) := by
  unfold X11_stillIn
  refine kI_bI keep_r (X0_hoursTillStill_kp 0 μ) (fun x1 μ2 h_μ2 => ?_)
  refine kI_bI h_μ2 (X11_giveIfAny_kp x1 μ2) (fun x3 μ4 h_μ4 => ?_)
  exact kI_some h_μ4
/-! ClockRiver.lawIn -/
theorem X11_lawIn_J28_kp (s0 : Int32) (μ : sM) : kI pM μ (X11_lawIn_J28 s0 μ) := by
  unfold X11_lawIn_J28
  refine kI_bI keep_r (X11_give_kp s0 μ) (fun x1 μ2 h_μ2 => ?_)
  exact kI_some h_μ2
theorem X11_lawIn_kp (μ : sM) : kI pM μ (X11_lawIn μ) := by
  unfold X11_lawIn
  refine kI_bI keep_r (X4_isLawDay_kp 0 μ) (fun x1 μ2 h_μ2 => ?_)
  refine kI_ite ?_ ?_
  · exact kI_to h_μ2 (X11_lawIn_J28_kp 0 μ2)
  · exact kI_to h_μ2 (X11_lawIn_J28_kp (24 - (irm (rI μ2 5 0 4) 24)) μ2)
/-! ClockRiver.enough -/
theorem X11_enough_J36_kp (μ : sM) : kI pM μ (X11_enough_J36 μ) := by
  unfold X11_enough_J36
  refine kI_bI keep_r (X11_refuse_kp 5 μ) (fun x1 μ2 h_μ2 => ?_)
  exact kI_some h_μ2
theorem X11_enough_kp (a1 : Int32) (a2 : Int32) (a3 : Int32) (μ : sM) : kI pM μ (X11_enough a1 a2 a3 μ) := by
  unfold X11_enough
  refine kI_bI keep_r (X4_hasMill_kp 0 a1 μ) (fun x1 μ2 h_μ2 => ?_)
  refine kI_ite ?_ ?_
  · refine kI_bI h_μ2 (X11_refuse_kp 2 μ2) (fun x7 μ8 h_μ8 => ?_)
    exact kI_some h_μ8
  · refine kI_ite ?_ ?_
    · exact kI_to h_μ2 (X11_enough_J36_kp μ2)
    · refine kI_ite ?_ ?_
      · exact kI_to h_μ2 (X11_enough_J36_kp μ2)
      · refine kI_ite ?_ ?_
        · exact kI_to h_μ2 (X11_enough_J36_kp μ2)
        · refine kI_ite ?_ ?_
          · refine kI_bI h_μ2 (X0_leastTurns_kp 0 a1 a2 a3 μ2) (fun x3 μ4 h_μ4 => ?_)
            refine kI_bI h_μ4 (X11_giveIfAny_kp x3 μ4) (fun x5 μ6 h_μ6 => ?_)
            exact kI_some h_μ6
          · exact kI_to h_μ2 (X11_enough_J36_kp μ2)
/-! ClockRiver.whyNoGate -/
theorem X11_whyNoGate_kp (a1 : Int32) (a2 : Int32) (μ : sM) : kI pM μ (X11_whyNoGate a1 a2 μ) := by
  unfold X11_whyNoGate
  refine kI_bI keep_r (X4_hasReach_kp 0 a1 μ) (fun x1 μ2 h_μ2 => ?_)
  refine kI_ite ?_ ?_
  · exact kI_some h_μ2
  · refine kI_ite ?_ ?_
    · exact kI_some h_μ2
    · refine kI_ite ?_ ?_
      · exact kI_some h_μ2
      · exact kI_some h_μ2
/-! ClockRiver.bestGate -/
theorem X11_bestGate_kp (a1 : Int32) (a2 : Int32) (μ : sM) : kI pM μ (X11_bestGate a1 a2 μ) := by
  unfold X11_bestGate
  refine kI_bI keep_r (X11_whyNoGate_kp a1 a2 μ) (fun x1 μ2 h_μ2 => ?_)
  refine kI_ite ?_ ?_
  · refine kI_bV h_μ2 (X0_findGate_kp 0 a1 a2 μ2) (fun μ4 h_μ4 => ?_)
    refine kI_bI h_μ4 (X11_give_kp (rI μ4 1 0 1) μ4) (fun x5 μ6 h_μ6 => ?_)
    exact kI_some h_μ6
  · refine kI_bI h_μ2 (X11_refuse_kp x1 μ2) (fun x7 μ8 h_μ8 => ?_)
    exact kI_some h_μ8
/-! ClockRiver.bestGround -/
theorem X11_bestGround_kp (a1 : Int32) (a2 : Int32) (μ : sM) : kI pM μ (X11_bestGround a1 a2 μ) := by
  unfold X11_bestGround
  refine kI_bI keep_r (X11_whyNoGate_kp a1 a2 μ) (fun x1 μ2 h_μ2 => ?_)
  refine kI_ite ?_ ?_
  · refine kI_bV h_μ2 (X0_findGate_kp 0 a1 a2 μ2) (fun μ4 h_μ4 => ?_)
    refine kI_bI h_μ4 (X11_give_kp (rI μ4 1 0 2) μ4) (fun x5 μ6 h_μ6 => ?_)
    exact kI_some h_μ6
  · refine kI_bI h_μ2 (X11_refuse_kp x1 μ2) (fun x7 μ8 h_μ8 => ?_)
    exact kI_some h_μ8
/-! ClockRiver.isNoHire -/
theorem X11_isNoHire_kp (a0 : Int32) (a1 : Int32) (μ : sM) : kI pM μ (X11_isNoHire a0 a1 μ) := by
  unfold X11_isNoHire
  refine kI_ite ?_ ?_
  · exact kI_some keep_r
  · refine kI_ite ?_ ?_
    · exact kI_some keep_r
    · refine kI_ite ?_ ?_
      · exact kI_some keep_r
      · refine kI_ite ?_ ?_
        · exact kI_some keep_r
        · exact kI_some keep_r
/-! ClockRiver.hire -/
theorem X11_hire_kp (a1 : Int32) (a2 : Int32) (μ : sM) : kI pM μ (X11_hire a1 a2 μ) := by
  unfold X11_hire
  refine kI_bI keep_r (X11_isNoHire_kp a1 a2 μ) (fun x1 μ2 h_μ2 => ?_)
  refine kI_ite ?_ ?_
  · refine kI_bI h_μ2 (X0_hireFor_kp 0 a1 a2 μ2) (fun x3 μ4 h_μ4 => ?_)
    refine kI_bI h_μ4 (X11_giveIfAny_kp x3 μ4) (fun x5 μ6 h_μ6 => ?_)
    exact kI_some h_μ6
  · refine kI_bI h_μ2 (X11_refuse_kp 5 μ2) (fun x7 μ8 h_μ8 => ?_)
    exact kI_some h_μ8
/-! ClockRiver.hireAt -/
theorem X11_hireAt_J17_kp (μ : sM) : kI pM μ (X11_hireAt_J17 μ) := by
  unfold X11_hireAt_J17
  refine kI_bI keep_r (X11_refuse_kp 5 μ) (fun x1 μ2 h_μ2 => ?_)
  exact kI_some h_μ2
theorem X11_hireAt_kp (a1 : Int32) (a2 : Int32) (a3 : Int32) (μ : sM) : kI pM μ (X11_hireAt a1 a2 a3 μ) := by
  unfold X11_hireAt
  refine kI_bI keep_r (X11_isNoHire_kp a1 a2 μ) (fun x1 μ2 h_μ2 => ?_)
  refine kI_ite ?_ ?_
  · refine kI_ite ?_ ?_
    · exact kI_to h_μ2 (X11_hireAt_J17_kp μ2)
    · refine kI_ite ?_ ?_
      · refine kI_bI h_μ2 (X0_hireFor_kp 0 a1 a2 μ2) (fun x3 μ4 h_μ4 => ?_)
        refine kI_ite ?_ ?_
        · refine kI_bI h_μ4 (X11_refuse_kp 8 μ4) (fun x7 μ8 h_μ8 => ?_)
          exact kI_some h_μ8
        · refine kI_ck ?_
          refine kI_bI h_μ4 (X11_give_kp (rI μ4 21 0 (ix a3)) μ4) (fun x5 μ6 h_μ6 => ?_)
          exact kI_some h_μ6
      · exact kI_to h_μ2 (X11_hireAt_J17_kp μ2)
  · exact kI_to h_μ2 (X11_hireAt_J17_kp μ2)
/-! ClockRiver.isNoSpring -/
theorem X11_isNoSpring_kp (a0 : Int32) (μ : sM) : kI pM μ (X11_isNoSpring a0 μ) := by
  unfold X11_isNoSpring
  refine kI_ite ?_ ?_
  · exact kI_some keep_r
  · refine kI_ite ?_ ?_
    · exact kI_some keep_r
    · exact kI_some keep_r
/-! ClockRiver.wound -/
theorem X11_wound_J14_kp (μ : sM) : kI pM μ (X11_wound_J14 μ) := by
  unfold X11_wound_J14
  refine kI_bI keep_r (X11_refuse_kp 5 μ) (fun x1 μ2 h_μ2 => ?_)
  exact kI_some h_μ2
theorem X11_wound_J60_kp {k25 : Int32 → Int32 → Int32 → Int32 → sM → Option (Int32 × sM)} (hk25 : ∀ (v1 : Int32) (v2 : Int32) (v3 : Int32) (v4 : Int32) (μ : sM), kI pM μ (k25 v1 v2 v3 v4 μ)) (v1 : Int32) (v2 : Int32) (v3 : Int32) (v4 : Int32) (μ : sM) : kI pM μ (X11_wound_J60 k25 v1 v2 v3 v4 μ) := by
  unfold X11_wound_J60
  exact kI_to keep_r (hk25 v1 v2 v3 (v4 + 1) μ)
theorem X11_wound_L25_kp : ∀ (n : Nat) (v1 : Int32) (v2 : Int32) (v3 : Int32) (v4 : Int32) (μ : sM), kI pM μ (X11_wound_L25 n v1 v2 v3 v4 μ) := by
  intro n
  induction n with
  | zero =>
    intros
    exact kI_none
  | succ n ih =>
    intro v1 v2 v3 v4 μ
    unfold X11_wound_L25
    refine kI_bI keep_r (X10_sets_kp 0 μ) (fun x1 μ2 h_μ2 => ?_)
    refine kI_ite ?_ ?_
    · refine kI_bI h_μ2 (X11_give_kp v3 μ2) (fun x3 μ4 h_μ4 => ?_)
      exact kI_some h_μ4
    · refine kI_bI h_μ2 (X10_canWind_kp 0 v4 v1 v2 μ2) (fun x5 μ6 h_μ6 => ?_)
      refine kI_ite ?_ ?_
      · exact kI_to h_μ6 (X11_wound_J60_kp ih v1 v2 v3 v4 μ6)
      · exact kI_to h_μ6 (X11_wound_J60_kp ih v1 v2 (v3 + 1) v4 μ6)
theorem X11_wound_kp (a1 : Int32) (a2 : Int32) (μ : sM) : kI pM μ (X11_wound a1 a2 μ) := by
  unfold X11_wound
  refine kI_bI keep_r (X11_isNoSpring_kp a1 μ) (fun x1 μ2 h_μ2 => ?_)
  refine kI_ite ?_ ?_
  · refine kI_bI h_μ2 (X11_isNoSpring_kp a2 μ2) (fun x3 μ4 h_μ4 => ?_)
    refine kI_ite ?_ ?_
    · exact kI_to h_μ4 (X11_wound_L25_kp fuN a1 a2 0 0 μ4)
    · exact kI_to h_μ4 (X11_wound_J14_kp μ4)
  · exact kI_to h_μ2 (X11_wound_J14_kp μ2)
/-! ClockRiver.sure -/
theorem X11_sure_J14_kp (μ : sM) : kI pM μ (X11_sure_J14 μ) := by
  unfold X11_sure_J14
  refine kI_bI keep_r (X11_refuse_kp 5 μ) (fun x1 μ2 h_μ2 => ?_)
  exact kI_some h_μ2
theorem X11_sure_J72_kp {k25 : Int32 → Int32 → Int32 → Int32 → sM → Option (Int32 × sM)} (hk25 : ∀ (v1 : Int32) (v2 : Int32) (v3 : Int32) (v4 : Int32) (μ : sM), kI pM μ (k25 v1 v2 v3 v4 μ)) (v1 : Int32) (v2 : Int32) (v3 : Int32) (v4 : Int32) (μ : sM) : kI pM μ (X11_sure_J72 k25 v1 v2 v3 v4 μ) := by
  unfold X11_sure_J72
  exact kI_to keep_r (hk25 v1 v2 v3 (v4 + 1) μ)
theorem X11_sure_J71_kp {k25 : Int32 → Int32 → Int32 → Int32 → sM → Option (Int32 × sM)} (hk25 : ∀ (v1 : Int32) (v2 : Int32) (v3 : Int32) (v4 : Int32) (μ : sM), kI pM μ (k25 v1 v2 v3 v4 μ)) (v1 : Int32) (v2 : Int32) (v4 : Int32) (s0 : Int32) (μ : sM) : kI pM μ (X11_sure_J71 k25 v1 v2 v4 s0 μ) := by
  unfold X11_sure_J71
  exact kI_to keep_r (X11_sure_J72_kp hk25 v1 v2 s0 v4 μ)
theorem X11_sure_L25_kp : ∀ (n : Nat) (v1 : Int32) (v2 : Int32) (v3 : Int32) (v4 : Int32) (μ : sM), kI pM μ (X11_sure_L25 n v1 v2 v3 v4 μ) := by
  intro n
  induction n with
  | zero =>
    intros
    exact kI_none
  | succ n ih =>
    intro v1 v2 v3 v4 μ
    unfold X11_sure_L25
    refine kI_bI keep_r (X10_sets_kp 0 μ) (fun x1 μ2 h_μ2 => ?_)
    refine kI_ite ?_ ?_
    · refine kI_bI h_μ2 (X11_giveIfAny_kp v3 μ2) (fun x3 μ4 h_μ4 => ?_)
      exact kI_some h_μ4
    · refine kI_bI h_μ2 (X10_canWind_kp 0 v4 v1 v2 μ2) (fun x5 μ6 h_μ6 => ?_)
      refine kI_ite ?_ ?_
      · exact kI_to h_μ6 (X11_sure_J72_kp ih v1 v2 v3 v4 μ6)
      · refine kI_ite ?_ ?_
        · exact kI_to h_μ6 (X11_sure_J71_kp ih v1 v2 v4 v4 μ6)
        · exact kI_to h_μ6 (X11_sure_J71_kp ih v1 v2 v4 (v3 &&& v4) μ6)
theorem X11_sure_kp (a1 : Int32) (a2 : Int32) (μ : sM) : kI pM μ (X11_sure a1 a2 μ) := by
  unfold X11_sure
  refine kI_bI keep_r (X11_isNoSpring_kp a1 μ) (fun x1 μ2 h_μ2 => ?_)
  refine kI_ite ?_ ?_
  · refine kI_bI h_μ2 (X11_isNoSpring_kp a2 μ2) (fun x3 μ4 h_μ4 => ?_)
    refine kI_ite ?_ ?_
    · exact kI_to h_μ4 (X11_sure_L25_kp fuN a1 a2 (-1) 0 μ4)
    · exact kI_to h_μ4 (X11_sure_J14_kp μ4)
  · exact kI_to h_μ2 (X11_sure_J14_kp μ2)
/-! ClockRiver.cheapest -/
theorem X11_cheapest_J14_kp (μ : sM) : kI pM μ (X11_cheapest_J14 μ) := by
  unfold X11_cheapest_J14
  refine kI_bI keep_r (X11_refuse_kp 5 μ) (fun x1 μ2 h_μ2 => ?_)
  exact kI_some h_μ2
theorem X11_cheapest_J88_kp {k25 : Int32 → Int32 → Int32 → Int32 → sM → Option (Int32 × sM)} (hk25 : ∀ (v1 : Int32) (v2 : Int32) (v3 : Int32) (v4 : Int32) (μ : sM), kI pM μ (k25 v1 v2 v3 v4 μ)) (v1 : Int32) (v2 : Int32) (v3 : Int32) (v4 : Int32) (μ : sM) : kI pM μ (X11_cheapest_J88 k25 v1 v2 v3 v4 μ) := by
  unfold X11_cheapest_J88
  exact kI_to keep_r (hk25 v1 v2 v3 (v4 + 1) μ)
theorem X11_cheapest_J87_kp {k25 : Int32 → Int32 → Int32 → Int32 → sM → Option (Int32 × sM)} (hk25 : ∀ (v1 : Int32) (v2 : Int32) (v3 : Int32) (v4 : Int32) (μ : sM), kI pM μ (k25 v1 v2 v3 v4 μ)) (v1 : Int32) (v2 : Int32) (v4 : Int32) (s0 : Int32) (μ : sM) : kI pM μ (X11_cheapest_J87 k25 v1 v2 v4 s0 μ) := by
  unfold X11_cheapest_J87
  exact kI_to keep_r (X11_cheapest_J88_kp hk25 v1 v2 s0 v4 μ)
theorem X11_cheapest_L25_kp : ∀ (n : Nat) (v1 : Int32) (v2 : Int32) (v3 : Int32) (v4 : Int32) (μ : sM), kI pM μ (X11_cheapest_L25 n v1 v2 v3 v4 μ) := by
  intro n
  induction n with
  | zero =>
    intros
    exact kI_none
  | succ n ih =>
    intro v1 v2 v3 v4 μ
    unfold X11_cheapest_L25
    refine kI_bI keep_r (X10_sets_kp 0 μ) (fun x1 μ2 h_μ2 => ?_)
    refine kI_ite ?_ ?_
    · refine kI_bI h_μ2 (X11_giveIfAny_kp v3 μ2) (fun x3 μ4 h_μ4 => ?_)
      exact kI_some h_μ4
    · refine kI_bI h_μ2 (X10_canWind_kp 0 v4 v1 v2 μ2) (fun x5 μ6 h_μ6 => ?_)
      refine kI_ite ?_ ?_
      · exact kI_to h_μ6 (X11_cheapest_J88_kp ih v1 v2 v3 v4 μ6)
      · refine kI_bI h_μ6 (X10_wagesOf_kp 0 v4 μ6) (fun x7 μ8 h_μ8 => ?_)
        refine kI_ite ?_ ?_
        · exact kI_to h_μ8 (X11_cheapest_J87_kp ih v1 v2 v4 x7 μ8)
        · exact kI_to h_μ8 (X11_cheapest_J87_kp ih v1 v2 v4 (imn v3 x7) μ8)
theorem X11_cheapest_kp (a1 : Int32) (a2 : Int32) (μ : sM) : kI pM μ (X11_cheapest a1 a2 μ) := by
  unfold X11_cheapest
  refine kI_bI keep_r (X11_isNoSpring_kp a1 μ) (fun x1 μ2 h_μ2 => ?_)
  refine kI_ite ?_ ?_
  · refine kI_bI h_μ2 (X11_isNoSpring_kp a2 μ2) (fun x3 μ4 h_μ4 => ?_)
    refine kI_ite ?_ ?_
    · exact kI_to h_μ4 (X11_cheapest_L25_kp fuN a1 a2 (-1) 0 μ4)
    · exact kI_to h_μ4 (X11_cheapest_J14_kp μ4)
  · exact kI_to h_μ2 (X11_cheapest_J14_kp μ2)
/-! ClockRiver.game -/
theorem X11_game_J22_kp (μ : sM) : kI pM μ (X11_game_J22 μ) := by
  unfold X11_game_J22
  refine kI_bI keep_r (X11_refuse_kp 2 μ) (fun x1 μ2 h_μ2 => ?_)
  exact kI_some h_μ2
theorem X11_game_J42_kp (μ : sM) : kI pM μ (X11_game_J42 μ) := by
  unfold X11_game_J42
  refine kI_bI keep_r (X11_refuse_kp 5 μ) (fun x1 μ2 h_μ2 => ?_)
  exact kI_some h_μ2
theorem X11_game_kp (a1 : Int32) (a2 : Int32) (a3 : Int32) (μ : sM) : kI pM μ (X11_game a1 a2 a3 μ) := by
  unfold X11_game
  refine kI_bI keep_r (X4_hasMill_kp 0 a1 μ) (fun x1 μ2 h_μ2 => ?_)
  refine kI_ite ?_ ?_
  · exact kI_to h_μ2 (X11_game_J22_kp μ2)
  · refine kI_bI h_μ2 (X4_hasMill_kp 0 a2 μ2) (fun x3 μ4 h_μ4 => ?_)
    refine kI_ite ?_ ?_
    · exact kI_to h_μ4 (X11_game_J22_kp μ4)
    · refine kI_ite ?_ ?_
      · exact kI_to h_μ4 (X11_game_J42_kp μ4)
      · refine kI_ite ?_ ?_
        · exact kI_to h_μ4 (X11_game_J42_kp μ4)
        · refine kI_ite ?_ ?_
          · refine kI_bI h_μ4 (X0_bestLead_kp 0 a1 a2 a3 μ4) (fun x5 μ6 h_μ6 => ?_)
            refine kI_bI h_μ6 (X11_give_kp x5 μ6) (fun x7 μ8 h_μ8 => ?_)
            exact kI_some h_μ8
          · exact kI_to h_μ4 (X11_game_J42_kp μ4)
/-! ClockRiver.moveOf -/
theorem X11_moveOf_J22_kp (μ : sM) : kI pM μ (X11_moveOf_J22 μ) := by
  unfold X11_moveOf_J22
  refine kI_bI keep_r (X11_refuse_kp 2 μ) (fun x1 μ2 h_μ2 => ?_)
  exact kI_some h_μ2
theorem X11_moveOf_J43_kp (μ : sM) : kI pM μ (X11_moveOf_J43 μ) := by
  unfold X11_moveOf_J43
  refine kI_bI keep_r (X11_refuse_kp 5 μ) (fun x1 μ2 h_μ2 => ?_)
  exact kI_some h_μ2
theorem X11_moveOf_kp (a1 : Int32) (a2 : Int32) (a3 : Int32) (μ : sM) : kI pM μ (X11_moveOf a1 a2 a3 μ) := by
  unfold X11_moveOf
  refine kI_bI keep_r (X4_hasMill_kp 0 a1 μ) (fun x1 μ2 h_μ2 => ?_)
  refine kI_ite ?_ ?_
  · exact kI_to h_μ2 (X11_moveOf_J22_kp μ2)
  · refine kI_bI h_μ2 (X4_hasMill_kp 0 a2 μ2) (fun x3 μ4 h_μ4 => ?_)
    refine kI_ite ?_ ?_
    · exact kI_to h_μ4 (X11_moveOf_J22_kp μ4)
    · refine kI_ite ?_ ?_
      · exact kI_to h_μ4 (X11_moveOf_J43_kp μ4)
      · refine kI_ite ?_ ?_
        · exact kI_to h_μ4 (X11_moveOf_J43_kp μ4)
        · refine kI_ite ?_ ?_
          · refine kI_bI h_μ4 (X0_bestLead_kp 0 a1 a2 a3 μ4) (fun x5 μ6 h_μ6 => ?_)
            refine kI_bI h_μ6 (X11_give_kp (rI μ6 1 0 3) μ6) (fun x7 μ8 h_μ8 => ?_)
            exact kI_some h_μ8
          · exact kI_to h_μ4 (X11_moveOf_J43_kp μ4)
/-! ClockRiver.commonDivisor -/
theorem X11_commonDivisor_L9_kp : ∀ (n : Nat) (v4 : Int64) (v6 : Int64) (v8 : Int32) (μ : sM), kL pM μ (X11_commonDivisor_L9 n v4 v6 v8 μ) := by
  intro n
  induction n with
  | zero =>
    intros
    exact kL_none
  | succ n ih =>
    intro v4 v6 v8 μ
    unfold X11_commonDivisor_L9
    refine kL_ite ?_ ?_
    · exact kL_some keep_r
    · refine kL_ite ?_ ?_
      · exact kL_some keep_r
      · refine kL_cn ?_
        exact kL_to keep_r (ih v6 (lrm v4 v6) (v8 + 1) μ)
theorem X11_commonDivisor_kp (a0 : Int64) (a2 : Int64) (μ : sM) : kL pM μ (X11_commonDivisor a0 a2 μ) := by
  unfold X11_commonDivisor
  exact kL_to keep_r (X11_commonDivisor_L9_kp fuN a0 a2 0 μ)
/-! ClockRiver.tellFraction -/
theorem X11_tellFraction_kp (a1 : Int64) (a3 : Int64) (μ : sM) : kV pM μ (X11_tellFraction a1 a3 μ) := by
  unfold X11_tellFraction
  refine kV_bL keep_r (X11_commonDivisor_kp a1 a3 μ) (fun x1 μ2 h_μ2 => ?_)
  refine kV_cn ?_
  refine kV_cn ?_
  exact kV_some (keep_wL rfl (keep_wL rfl h_μ2))
/-! ClockRiver.share -/
theorem X11_share_kp (a1 : Int32) (μ : sM) : kI pM μ (X11_share a1 μ) := by
  unfold X11_share
  refine kI_bI keep_r (X4_hasMill_kp 0 a1 μ) (fun x1 μ2 h_μ2 => ?_)
  refine kI_ite ?_ ?_
  · refine kI_bI h_μ2 (X11_deny_kp 2 μ2) (fun x11 μ12 h_μ12 => ?_)
    refine kI_ck ?_
    exact kI_some h_μ12
  · refine kI_bI h_μ2 (X2_allGround_kp 0 μ2) (fun x3 μ4 h_μ4 => ?_)
    refine kI_ite ?_ ?_
    · refine kI_bI h_μ4 (X11_deny_kp 8 μ4) (fun x9 μ10 h_μ10 => ?_)
      refine kI_ck ?_
      exact kI_some h_μ10
    · refine kI_ck ?_
      refine kI_bV h_μ4 (X11_tellFraction_kp (Int32.toInt64 (rI μ4 27 0 (ix a1))) (Int32.toInt64 x3) μ4) (fun μ6 h_μ6 => ?_)
      refine kI_bI h_μ6 (X11_grant_kp μ6) (fun x7 μ8 h_μ8 => ?_)
      refine kI_ck ?_
      exact kI_some h_μ8
/-! ClockRiver.price -/
theorem X11_price_kp (a1 : Int32) (μ : sM) : kI pM μ (X11_price a1 μ) := by
  unfold X11_price
  refine kI_bI keep_r (X4_hasWinder_kp 0 a1 μ) (fun x1 μ2 h_μ2 => ?_)
  refine kI_ite ?_ ?_
  · refine kI_bI h_μ2 (X11_deny_kp 2 μ2) (fun x7 μ8 h_μ8 => ?_)
    refine kI_ck ?_
    exact kI_some h_μ8
  · refine kI_ck ?_
    refine kI_ck ?_
    refine kI_bV h_μ2 (X11_tellFraction_kp (Int32.toInt64 (rI μ2 52 0 (ix a1))) (Int32.toInt64 (rI μ2 51 0 (ix a1))) μ2) (fun μ4 h_μ4 => ?_)
    refine kI_bI h_μ4 (X11_grant_kp μ4) (fun x5 μ6 h_μ6 => ?_)
    refine kI_ck ?_
    exact kI_some h_μ6
/-! ClockRiver.waysToRain -/
theorem X11_waysToRain_J69_kp {k34 : Int32 → Int32 → Int64 → Int32 → sM → Option (Int64 × sM)} (hk34 : ∀ (v1 : Int32) (v2 : Int32) (v3 : Int64) (v5 : Int32) (μ : sM), kL pM μ (k34 v1 v2 v3 v5 μ)) (v1 : Int32) (v2 : Int32) (v5 : Int32) (s0 : Int64) (s1 : Int64) (μ : sM) : kL pM μ (X11_waysToRain_J69 k34 v1 v2 v5 s0 s1 μ) := by
  unfold X11_waysToRain_J69
  exact kL_to keep_r (hk34 v1 v2 (s1 * s0) (v5 + 1) μ)
theorem X11_waysToRain_L34_kp : ∀ (n : Nat) (v1 : Int32) (v2 : Int32) (v3 : Int64) (v5 : Int32) (μ : sM), kL pM μ (X11_waysToRain_L34 n v1 v2 v3 v5 μ) := by
  intro n
  induction n with
  | zero =>
    intros
    exact kL_none
  | succ n ih =>
    intro v1 v2 v3 v5 μ
    unfold X11_waysToRain_L34
    refine kL_ite ?_ ?_
    · exact kL_some keep_r
    · refine kL_ite ?_ ?_
      · exact kL_to keep_r (X11_waysToRain_J69_kp ih v1 v2 v5 (Int32.toInt64 (16 - (rI μ 5 0 3))) v3 μ)
      · exact kL_to keep_r (X11_waysToRain_J69_kp ih v1 v2 v5 (Int32.toInt64 (rI μ 5 0 3)) v3 μ)
theorem X11_waysToRain_L5_kp : ∀ (n : Nat) (v1 : Int32) (v2 : Int32) (v3 : Int64) (v5 : Int32) (μ : sM), kL pM μ (X11_waysToRain_L5 n v1 v2 v3 v5 μ) := by
  intro n
  induction n with
  | zero =>
    intros
    exact kL_none
  | succ n ih =>
    intro v1 v2 v3 v5 μ
    unfold X11_waysToRain_L5
    refine kL_ite ?_ ?_
    · exact kL_to keep_r (X11_waysToRain_L34_kp fuN v1 v2 v3 0 μ)
    · refine kL_cn ?_
      exact kL_to keep_r (ih v1 v2 ((v3 * (Int32.toInt64 (v1 - v5))) / (Int32.toInt64 (v5 + 1))) (v5 + 1) μ)
theorem X11_waysToRain_kp (a1 : Int32) (a2 : Int32) (μ : sM) : kL pM μ (X11_waysToRain a1 a2 μ) := by
  unfold X11_waysToRain
  exact kL_to keep_r (X11_waysToRain_L5_kp fuN a1 a2 1 0 μ)
/-! ClockRiver.wet -/
theorem X11_wet_J20_kp (μ : sM) : kI pM μ (X11_wet_J20 μ) := by
  unfold X11_wet_J20
  refine kI_bI keep_r (X11_deny_kp 5 μ) (fun x1 μ2 h_μ2 => ?_)
  refine kI_ck ?_
  exact kI_some h_μ2
theorem X11_wet_L57_kp : ∀ (n : Nat) (v1 : Int32) (v3 : Int64) (v5 : Int64) (v7 : Int32) (μ : sM), kI pM μ (X11_wet_L57 n v1 v3 v5 v7 μ) := by
  intro n
  induction n with
  | zero =>
    intros
    exact kI_none
  | succ n ih =>
    intro v1 v3 v5 v7 μ
    unfold X11_wet_L57
    refine kI_ite ?_ ?_
    · refine kI_bV keep_r (X11_tellFraction_kp v3 v5 μ) (fun μ2 h_μ2 => ?_)
      refine kI_bI h_μ2 (X11_grant_kp μ2) (fun x3 μ4 h_μ4 => ?_)
      refine kI_ck ?_
      exact kI_some h_μ4
    · refine kI_bL keep_r (X11_waysToRain_kp v1 v7 μ) (fun x5 μ6 h_μ6 => ?_)
      exact kI_to h_μ6 (ih v1 (v3 + x5) v5 (v7 + 1) μ6)
theorem X11_wet_L34_kp : ∀ (n : Nat) (v1 : Int32) (v2 : Int32) (v3 : Int64) (v5 : Int64) (v7 : Int32) (μ : sM), kI pM μ (X11_wet_L34 n v1 v2 v3 v5 v7 μ) := by
  intro n
  induction n with
  | zero =>
    intros
    exact kI_none
  | succ n ih =>
    intro v1 v2 v3 v5 v7 μ
    unfold X11_wet_L34
    refine kI_ite ?_ ?_
    · exact kI_to keep_r (X11_wet_L57_kp fuN v1 v3 v5 v2 μ)
    · exact kI_to keep_r (ih v1 v2 v3 (v5 * 16) (v7 + 1) μ)
theorem X11_wet_kp (a1 : Int32) (a2 : Int32) (μ : sM) : kI pM μ (X11_wet a1 a2 μ) := by
  unfold X11_wet
  refine kI_ite ?_ ?_
  · exact kI_to keep_r (X11_wet_J20_kp μ)
  · refine kI_ite ?_ ?_
    · exact kI_to keep_r (X11_wet_J20_kp μ)
    · refine kI_ite ?_ ?_
      · exact kI_to keep_r (X11_wet_J20_kp μ)
      · refine kI_ite ?_ ?_
        · exact kI_to keep_r (X11_wet_L34_kp fuN a1 a2 0 1 0 μ)
        · exact kI_to keep_r (X11_wet_J20_kp μ)
/-! ClockRiver.live -/
theorem X11_live_J11_kp (μ : sM) : kI pM μ (X11_live_J11 μ) := by
  unfold X11_live_J11
  refine kI_bI keep_r (X11_refuse_kp 5 μ) (fun x1 μ2 h_μ2 => ?_)
  exact kI_some h_μ2
theorem X11_live_kp (a1 : Int32) (μ : sM) : kI pM μ (X11_live a1 μ) := by
  unfold X11_live
  refine kI_ite ?_ ?_
  · exact kI_to keep_r (X11_live_J11_kp μ)
  · refine kI_ite ?_ ?_
    · refine kI_ite ?_ ?_
      · refine kI_bI keep_r (X11_refuse_kp 8 μ) (fun x5 μ6 h_μ6 => ?_)
        exact kI_some h_μ6
      · refine kI_bV keep_r (X1_run_kp 0 0 0 a1 μ) (fun μ2 h_μ2 => ?_)
        refine kI_bI h_μ2 (X11_give_kp (rI μ2 2 0 1) μ2) (fun x3 μ4 h_μ4 => ?_)
        exact kI_some h_μ4
    · exact kI_to keep_r (X11_live_J11_kp μ)
/-! ClockRiver.lived -/
theorem X11_lived_J9_kp (μ : sM) : kI pM μ (X11_lived_J9 μ) := by
  unfold X11_lived_J9
  refine kI_bI keep_r (X11_refuse_kp 5 μ) (fun x1 μ2 h_μ2 => ?_)
  exact kI_some h_μ2
theorem X11_lived_kp (a1 : Int32) (μ : sM) : kI pM μ (X11_lived a1 μ) := by
  unfold X11_lived
  refine kI_ite ?_ ?_
  · exact kI_to keep_r (X11_lived_J9_kp μ)
  · refine kI_ite ?_ ?_
    · refine kI_ite ?_ ?_
      · refine kI_bI keep_r (X11_refuse_kp 8 μ) (fun x5 μ6 h_μ6 => ?_)
        exact kI_some h_μ6
      · refine kI_bI keep_r (X1_figure_kp 0 a1 μ) (fun x1 μ2 h_μ2 => ?_)
        refine kI_bI h_μ2 (X11_give_kp x1 μ2) (fun x3 μ4 h_μ4 => ?_)
        exact kI_some h_μ4
    · exact kI_to keep_r (X11_lived_J9_kp μ)
/-! ClockRiver.mean -/
theorem X11_mean_J33_kp (μ : sM) : kI pM μ (X11_mean_J33 μ) := by
  unfold X11_mean_J33
  refine kI_bI keep_r (X11_deny_kp 5 μ) (fun x1 μ2 h_μ2 => ?_)
  refine kI_ck ?_
  exact kI_some h_μ2
theorem X11_mean_L61_kp : ∀ (n : Nat) (v1 : Int32) (v2 : Int32) (v3 : Int64) (v5 : Int32) (μ : sM), kI pM μ (X11_mean_L61 n v1 v2 v3 v5 μ) := by
  intro n
  induction n with
  | zero =>
    intros
    exact kI_none
  | succ n ih =>
    intro v1 v2 v3 v5 μ
    unfold X11_mean_L61
    refine kI_ite ?_ ?_
    · refine kI_bV keep_r (X11_tellFraction_kp v3 (Int32.toInt64 v2) μ) (fun μ2 h_μ2 => ?_)
      refine kI_bI h_μ2 (X11_grant_kp μ2) (fun x3 μ4 h_μ4 => ?_)
      refine kI_ck ?_
      exact kI_some h_μ4
    · refine kI_bA keep_r (X0_copyOf_kp 0 μ) (fun x5 μ6 h_μ6 => ?_)
      refine kI_bV h_μ6 (X1_run_kp 1 x5 0 (v1 + v5) μ6) (fun μ8 h_μ8 => ?_)
      refine kI_bI h_μ8 (X2_allGround_kp x5 μ8) (fun x9 μ10 h_μ10 => ?_)
      exact kI_to h_μ10 (ih v1 v2 (v3 + (Int32.toInt64 x9)) (v5 + 1) μ10)
theorem X11_mean_kp (a1 : Int32) (a2 : Int32) (μ : sM) : kI pM μ (X11_mean a1 a2 μ) := by
  unfold X11_mean
  refine kI_ite ?_ ?_
  · exact kI_to keep_r (X11_mean_J33_kp μ)
  · refine kI_ite ?_ ?_
    · exact kI_to keep_r (X11_mean_J33_kp μ)
    · refine kI_ite ?_ ?_
      · exact kI_to keep_r (X11_mean_J33_kp μ)
      · refine kI_ite ?_ ?_
        · exact kI_to keep_r (X11_mean_J33_kp μ)
        · refine kI_ite ?_ ?_
          · refine kI_ite ?_ ?_
            · refine kI_bI keep_r (X11_deny_kp 8 μ) (fun x1 μ2 h_μ2 => ?_)
              refine kI_ck ?_
              exact kI_some h_μ2
            · exact kI_to keep_r (X11_mean_L61_kp fuN a1 a2 0 0 μ)
          · exact kI_to keep_r (X11_mean_J33_kp μ)
/-! ClockRiver.mark -/
theorem X11_mark_kp (μ : sM) : kI pM μ (X11_mark μ) := by
  unfold X11_mark
  refine kI_ite ?_ ?_
  · refine kI_ck ?_
    refine kI_bV keep_r (X4_copyFrom_kp (1 + (ix (rI μ 12 0 3))) 0 μ) (fun μ2 h_μ2 => ?_)
    refine kI_ck ?_
    refine kI_bV h_μ2 (X8_copyFrom_kp (1 + (ix (rI μ2 12 0 3))) 0 μ2) (fun μ4 h_μ4 => ?_)
    refine kI_bI (keep_wI rfl h_μ4) (X11_give_kp ((rI μ4 12 0 3) + 1) (wI μ4 12 0 3 ((rI μ4 12 0 3) + 1))) (fun x5 μ6 h_μ6 => ?_)
    exact kI_some h_μ6
  · refine kI_bI keep_r (X11_refuse_kp 7 μ) (fun x7 μ8 h_μ8 => ?_)
    exact kI_some h_μ8
/-! ClockRiver.back -/
theorem X11_back_kp (μ : sM) : kI pM μ (X11_back μ) := by
  unfold X11_back
  refine kI_ite ?_ ?_
  · refine kI_ck ?_
    refine kI_bV (keep_wI rfl keep_r) (X4_copyFrom_kp 0 (1 + (ix ((rI μ 12 0 3) - 1))) (wI μ 12 0 3 ((rI μ 12 0 3) - 1))) (fun μ2 h_μ2 => ?_)
    refine kI_ck ?_
    refine kI_bV h_μ2 (X8_copyFrom_kp 0 (1 + (ix (rI μ2 12 0 3))) μ2) (fun μ4 h_μ4 => ?_)
    refine kI_bI h_μ4 (X11_give_kp (rI μ4 12 0 3) μ4) (fun x5 μ6 h_μ6 => ?_)
    exact kI_some h_μ6
  · refine kI_bI keep_r (X11_refuse_kp 8 μ) (fun x7 μ8 h_μ8 => ?_)
    exact kI_some h_μ8
