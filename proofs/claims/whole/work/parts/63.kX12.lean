/-! ClockRiverModel.status -/
theorem X12_status_kp (μ : sM) : kI pX μ (X12_status μ) := by
  unfold X12_status
  exact kI_some (keep_wI rfl keep_r)
/-! ClockRiverModel.top -/
theorem X12_top_kp (μ : sM) : kL pX μ (X12_top μ) := by
  unfold X12_top
  exact kL_some (keep_wI rfl keep_r)
/-! ClockRiverModel.bottom -/
theorem X12_bottom_kp (μ : sM) : kL pX μ (X12_bottom μ) := by
  unfold X12_bottom
  exact kL_some (keep_wI rfl keep_r)
/-! ClockRiverModel.no -/
theorem X12_no_kp (a1 : Int32) (μ : sM) : kI pX μ (X12_no a1 μ) := by
  unfold X12_no
  exact kI_some (keep_wI rfl keep_r)
/-! ClockRiverModel.tray -/
theorem X12_tray_J28_kp (μ : sM) : kI pX μ (X12_tray_J28 μ) := by
  unfold X12_tray_J28
  refine kI_bI keep_r (X12_no_kp 1 μ) (fun x1 μ2 h_μ2 => ?_)
  refine kI_ck ?_
  exact kI_some h_μ2
theorem X12_tray_L74_kp : ∀ (n : Nat) (v1 : Int32) (v3 : Int32) (v4 : Int32) (μ : sM), kI pX μ (X12_tray_L74 n v1 v3 v4 μ) := by
  intro n
  induction n with
  | zero =>
    intros
    exact kI_none
  | succ n ih =>
    intro v1 v3 v4 μ
    unfold X12_tray_L74
    refine kI_ite ?_ ?_
    · exact kI_some keep_r
    · refine kI_ck ?_
      exact kI_to (keep_wL rfl keep_r) (ih v1 v3 (v4 + 1) (wL μ 59 0 (ix ((60 * v1) + v4)) 0))
theorem X12_tray_kp (a1 : Int32) (a2 : Int32) (a3 : Int32) (μ : sM) : kI pX μ (X12_tray a1 a2 a3 μ) := by
  unfold X12_tray
  refine kI_ite ?_ ?_
  · exact kI_to (keep_wI rfl (keep_wI rfl keep_r)) (X12_tray_J28_kp (wI (wI μ 13 0 1 0) 13 0 0 0))
  · refine kI_ite ?_ ?_
    · exact kI_to (keep_wI rfl (keep_wI rfl keep_r)) (X12_tray_J28_kp (wI (wI μ 13 0 1 0) 13 0 0 0))
    · refine kI_ite ?_ ?_
      · exact kI_to (keep_wI rfl (keep_wI rfl keep_r)) (X12_tray_J28_kp (wI (wI μ 13 0 1 0) 13 0 0 0))
      · refine kI_ite ?_ ?_
        · refine kI_ite ?_ ?_
          · refine kI_ite ?_ ?_
            · refine kI_ck ?_
              refine kI_ck ?_
              exact kI_to (keep_wI rfl (keep_wI rfl (keep_wI rfl (keep_wI rfl keep_r)))) (X12_tray_L74_kp fuN a1 a3 0 (wI (wI (wI (wI μ 13 0 1 0) 13 0 0 0) 57 0 (ix a1) a2) 58 0 (ix a1) a3))
            · refine kI_bI (keep_wI rfl (keep_wI rfl keep_r)) (X12_no_kp 6 (wI (wI μ 13 0 1 0) 13 0 0 0)) (fun x1 μ2 h_μ2 => ?_)
              refine kI_ck ?_
              exact kI_some h_μ2
          · refine kI_bI (keep_wI rfl (keep_wI rfl keep_r)) (X12_no_kp 5 (wI (wI μ 13 0 1 0) 13 0 0 0)) (fun x3 μ4 h_μ4 => ?_)
            refine kI_ck ?_
            exact kI_some h_μ4
        · exact kI_to (keep_wI rfl (keep_wI rfl keep_r)) (X12_tray_J28_kp (wI (wI μ 13 0 1 0) 13 0 0 0))
/-! ClockRiverModel.trayed -/
theorem X12_trayed_kp (a1 : Int32) (μ : sM) : kI pX μ (X12_trayed a1 μ) := by
  unfold X12_trayed
  refine kI_ite ?_ ?_
  · exact kI_some keep_r
  · refine kI_ite ?_ ?_
    · refine kI_ck ?_
      refine kI_ite ?_ ?_
      · exact kI_some keep_r
      · exact kI_some keep_r
    · exact kI_some keep_r
/-! ClockRiverModel.placed -/
theorem X12_placed_kp (a1 : Int32) (a2 : Int32) (μ : sM) : kI pX μ (X12_placed a1 a2 μ) := by
  unfold X12_placed
  refine kI_bI keep_r (X12_trayed_kp a1 μ) (fun x1 μ2 h_μ2 => ?_)
  refine kI_ite ?_ ?_
  · refine kI_ite ?_ ?_
    · exact kI_some h_μ2
    · refine kI_ck ?_
      refine kI_ite ?_ ?_
      · exact kI_some h_μ2
      · exact kI_some h_μ2
  · exact kI_some h_μ2
/-! ClockRiverModel.cut -/
theorem X12_cut_kp (a0 : Int32) (a1 : Int64) (μ : sM) : kL pX μ (X12_cut a0 a1 μ) := by
  unfold X12_cut
  refine kL_ite ?_ ?_
  · exact kL_some keep_r
  · refine kL_ite ?_ ?_
    · exact kL_some keep_r
    · refine kL_ite ?_ ?_
      · exact kL_some keep_r
      · exact kL_some keep_r
/-! ClockRiverModel.write -/
theorem X12_write_kp (a1 : Int32) (a2 : Int32) (a3 : Int64) (μ : sM) : kI pX μ (X12_write a1 a2 a3 μ) := by
  unfold X12_write
  refine kI_bI (keep_wI rfl keep_r) (X12_placed_kp a1 a2 (wI μ 13 0 1 0)) (fun x1 μ2 h_μ2 => ?_)
  refine kI_ite ?_ ?_
  · refine kI_ck ?_
    refine kI_bL (keep_wI rfl h_μ2) (X12_cut_kp (rI μ2 57 0 (ix a1)) a3 (wI μ2 13 0 0 x1)) (fun x3 μ4 h_μ4 => ?_)
    refine kI_ck ?_
    exact kI_some (keep_wL rfl h_μ4)
  · exact kI_some (keep_wI rfl h_μ2)
/-! ClockRiverModel.read -/
theorem X12_read_kp (a1 : Int32) (a2 : Int32) (μ : sM) : kL pX μ (X12_read a1 a2 μ) := by
  unfold X12_read
  refine kL_bI (keep_wI rfl keep_r) (X12_placed_kp a1 a2 (wI μ 13 0 1 0)) (fun x1 μ2 h_μ2 => ?_)
  refine kL_ite ?_ ?_
  · refine kL_ck ?_
    exact kL_some (keep_wI rfl h_μ2)
  · exact kL_some (keep_wI rfl h_μ2)
/-! ClockRiverModel.pour -/
theorem X12_pour_J28_kp (μ : sM) : kI pX μ (X12_pour_J28 μ) := by
  unfold X12_pour_J28
  refine kI_bI keep_r (X12_no_kp 1 μ) (fun x1 μ2 h_μ2 => ?_)
  refine kI_ck ?_
  exact kI_some h_μ2
theorem X12_pour_J52_kp (μ : sM) : kI pX μ (X12_pour_J52 μ) := by
  unfold X12_pour_J52
  refine kI_bI keep_r (X12_no_kp 3 μ) (fun x1 μ2 h_μ2 => ?_)
  refine kI_ck ?_
  exact kI_some h_μ2
theorem X12_pour_J136_kp (μ : sM) : kI pX μ (X12_pour_J136 μ) := by
  unfold X12_pour_J136
  refine kI_bI keep_r (X12_no_kp 4 μ) (fun x1 μ2 h_μ2 => ?_)
  refine kI_ck ?_
  exact kI_some h_μ2
theorem X12_pour_J182_kp {k158 : Int32 → Int32 → Int32 → Int32 → Int32 → Int32 → Int32 → sM → Option (Int32 × sM)} (hk158 : ∀ (v1 : Int32) (v2 : Int32) (v3 : Int32) (v4 : Int32) (v5 : Int32) (v6 : Int32) (v7 : Int32) (μ : sM), kI pX μ (k158 v1 v2 v3 v4 v5 v6 v7 μ)) (v1 : Int32) (v2 : Int32) (v3 : Int32) (v4 : Int32) (v5 : Int32) (v6 : Int32) (v7 : Int32) (s0 : Int32) (μ : sM) : kI pX μ (X12_pour_J182 k158 v1 v2 v3 v4 v5 v6 v7 s0 μ) := by
  unfold X12_pour_J182
  refine kI_ck ?_
  refine kI_ck ?_
  exact kI_to (keep_wL rfl keep_r) (hk158 v1 v2 v3 v4 v5 v6 (v7 + 1) (wL μ 59 0 (ix (((60 * v3) + v4) + s0)) (rL μ 59 0 (ix (((60 * v1) + v2) + s0)))))
theorem X12_pour_L158_kp : ∀ (n : Nat) (v1 : Int32) (v2 : Int32) (v3 : Int32) (v4 : Int32) (v5 : Int32) (v6 : Int32) (v7 : Int32) (μ : sM), kI pX μ (X12_pour_L158 n v1 v2 v3 v4 v5 v6 v7 μ) := by
  intro n
  induction n with
  | zero =>
    intros
    exact kI_none
  | succ n ih =>
    intro v1 v2 v3 v4 v5 v6 v7 μ
    unfold X12_pour_L158
    refine kI_ite ?_ ?_
    · exact kI_some keep_r
    · refine kI_ite ?_ ?_
      · exact kI_to keep_r (X12_pour_J182_kp ih v1 v2 v3 v4 v5 v6 v7 v7 μ)
      · exact kI_to keep_r (X12_pour_J182_kp ih v1 v2 v3 v4 v5 v6 v7 ((v5 - 1) - v7) μ)
theorem X12_pour_J153_kp (v1 : Int32) (v2 : Int32) (v3 : Int32) (v4 : Int32) (v5 : Int32) (s0 : Int32) (μ : sM) : kI pX μ (X12_pour_J153 v1 v2 v3 v4 v5 s0 μ) := by
  unfold X12_pour_J153
  exact kI_to keep_r (X12_pour_L158_kp fuN v1 v2 v3 v4 v5 s0 0 μ)
theorem X12_pour_kp (a1 : Int32) (a2 : Int32) (a3 : Int32) (a4 : Int32) (a5 : Int32) (μ : sM) : kI pX μ (X12_pour a1 a2 a3 a4 a5 μ) := by
  unfold X12_pour
  refine kI_ite ?_ ?_
  · exact kI_to (keep_wI rfl (keep_wI rfl keep_r)) (X12_pour_J28_kp (wI (wI μ 13 0 1 0) 13 0 0 0))
  · refine kI_ite ?_ ?_
    · exact kI_to (keep_wI rfl (keep_wI rfl keep_r)) (X12_pour_J28_kp (wI (wI μ 13 0 1 0) 13 0 0 0))
    · refine kI_ite ?_ ?_
      · exact kI_to (keep_wI rfl (keep_wI rfl keep_r)) (X12_pour_J28_kp (wI (wI μ 13 0 1 0) 13 0 0 0))
      · refine kI_ite ?_ ?_
        · refine kI_ck ?_
          refine kI_ite ?_ ?_
          · exact kI_to (keep_wI rfl (keep_wI rfl keep_r)) (X12_pour_J52_kp (wI (wI μ 13 0 1 0) 13 0 0 0))
          · refine kI_ck ?_
            refine kI_ite ?_ ?_
            · refine kI_ck ?_
              refine kI_ck ?_
              refine kI_ite ?_ ?_
              · refine kI_ite ?_ ?_
                · refine kI_ite ?_ ?_
                  · exact kI_to (keep_wI rfl (keep_wI rfl keep_r)) (X12_pour_J136_kp (wI (wI μ 13 0 1 0) 13 0 0 0))
                  · refine kI_ite ?_ ?_
                    · exact kI_to (keep_wI rfl (keep_wI rfl keep_r)) (X12_pour_J136_kp (wI (wI μ 13 0 1 0) 13 0 0 0))
                    · refine kI_ck ?_
                      refine kI_ite ?_ ?_
                      · exact kI_to (keep_wI rfl (keep_wI rfl keep_r)) (X12_pour_J136_kp (wI (wI μ 13 0 1 0) 13 0 0 0))
                      · refine kI_ck ?_
                        refine kI_ite ?_ ?_
                        · refine kI_ite ?_ ?_
                          · exact kI_to (keep_wI rfl (keep_wI rfl keep_r)) (X12_pour_J153_kp a1 a2 a3 a4 a5 0 (wI (wI μ 13 0 1 0) 13 0 0 0))
                          · exact kI_to (keep_wI rfl (keep_wI rfl keep_r)) (X12_pour_J153_kp a1 a2 a3 a4 a5 1 (wI (wI μ 13 0 1 0) 13 0 0 0))
                        · exact kI_to (keep_wI rfl (keep_wI rfl keep_r)) (X12_pour_J136_kp (wI (wI μ 13 0 1 0) 13 0 0 0))
                · refine kI_bI (keep_wI rfl (keep_wI rfl keep_r)) (X12_no_kp 6 (wI (wI μ 13 0 1 0) 13 0 0 0)) (fun x1 μ2 h_μ2 => ?_)
                  refine kI_ck ?_
                  exact kI_some h_μ2
              · refine kI_bI (keep_wI rfl (keep_wI rfl keep_r)) (X12_no_kp 11 (wI (wI μ 13 0 1 0) 13 0 0 0)) (fun x3 μ4 h_μ4 => ?_)
                refine kI_ck ?_
                exact kI_some h_μ4
            · exact kI_to (keep_wI rfl (keep_wI rfl keep_r)) (X12_pour_J52_kp (wI (wI μ 13 0 1 0) 13 0 0 0))
        · exact kI_to (keep_wI rfl (keep_wI rfl keep_r)) (X12_pour_J28_kp (wI (wI μ 13 0 1 0) 13 0 0 0))
/-! ClockRiverModel.lay -/
theorem X12_lay_L2_kp : ∀ (n : Nat) (v1 : Int32) (v2 : Int32) (μ : sM), kV pX μ (X12_lay_L2 n v1 v2 μ) := by
  intro n
  induction n with
  | zero =>
    intros
    exact kV_none
  | succ n ih =>
    intro v1 v2 μ
    unfold X12_lay_L2
    refine kV_ite ?_ ?_
    · exact kV_some keep_r
    · refine kV_ck ?_
      exact kV_to (keep_wI rfl (keep_wI rfl keep_r)) (ih v1 (v2 + (-1)) (wI (wI μ 60 0 (ix (rI μ 13 0 8)) (Int8.toInt32 (Int32.toInt8 (Int8.toInt32 (Int32.toInt8 (isr v1 (8 * v2))))))) 13 0 8 ((rI μ 13 0 8) + 1)))
theorem X12_lay_kp (a1 : Int32) (μ : sM) : kV pX μ (X12_lay a1 μ) := by
  unfold X12_lay
  exact kV_to keep_r (X12_lay_L2_kp fuN a1 3 μ)
/-! ClockRiverModel.feed -/
theorem X12_feed_kp (a1 : Int32) (a2 : Int32) (a3 : Int32) (a4 : Int32) (a5 : Int32) (μ : sM) : kI pX μ (X12_feed a1 a2 a3 a4 a5 μ) := by
  unfold X12_feed
  refine kI_ite ?_ ?_
  · refine kI_bV (keep_wI rfl keep_r) (X12_lay_kp a1 (wI μ 13 0 1 0)) (fun μ2 h_μ2 => ?_)
    refine kI_bV h_μ2 (X12_lay_kp a2 μ2) (fun μ4 h_μ4 => ?_)
    refine kI_bV h_μ4 (X12_lay_kp a3 μ4) (fun μ6 h_μ6 => ?_)
    refine kI_bV h_μ6 (X12_lay_kp a4 μ6) (fun μ8 h_μ8 => ?_)
    refine kI_bV h_μ8 (X12_lay_kp a5 μ8) (fun μ10 h_μ10 => ?_)
    exact kI_some h_μ10
  · exact kI_some (keep_wI rfl keep_r)
/-! ClockRiverModel.look2 -/
theorem X12_look2_kp (a1 : Int32) (μ : sM) : kI pX μ (X12_look2 a1 μ) := by
  unfold X12_look2
  refine kI_ite ?_ ?_
  · exact kI_some keep_r
  · refine kI_ck ?_
    exact kI_some keep_r
/-! ClockRiverModel.isLetter -/
theorem X12_isLetter_kp (a0 : Int32) (μ : sM) : kI pX μ (X12_isLetter a0 μ) := by
  unfold X12_isLetter
  refine kI_ite ?_ ?_
  · exact kI_some keep_r
  · refine kI_ite ?_ ?_
    · exact kI_some keep_r
    · exact kI_some keep_r
/-! ClockRiverModel.isDigit -/
theorem X12_isDigit_kp (a0 : Int32) (μ : sM) : kI pX μ (X12_isDigit a0 μ) := by
  unfold X12_isDigit
  refine kI_ite ?_ ?_
  · exact kI_some keep_r
  · refine kI_ite ?_ ?_
    · exact kI_some keep_r
    · exact kI_some keep_r
/-! ClockRiverModel.isSignByte -/
theorem X12_isSignByte_kp (a1 : Int32) (μ : sM) : kI pX μ (X12_isSignByte a1 μ) := by
  unfold X12_isSignByte
  refine kI_ite ?_ ?_
  · exact kI_some keep_r
  · refine kI_ite ?_ ?_
    · exact kI_some keep_r
    · refine kI_ite ?_ ?_
      · exact kI_some keep_r
      · refine kI_ite ?_ ?_
        · exact kI_some keep_r
        · exact kI_some keep_r
/-! ClockRiverModel.advance -/
theorem X12_advance_J45_kp {k8 : sM → Option sM} (hk8 : ∀ (μ : sM), kV pX μ (k8 μ)) (μ : sM) : kV pX μ (X12_advance_J45 k8 μ) := by
  unfold X12_advance_J45
  exact kV_to (keep_wI rfl keep_r) (hk8 (wI μ 13 0 15 ((rI μ 13 0 15) + 1)))
theorem X12_advance_J166_kp {k109 : sM → Option sM} (hk109 : ∀ (μ : sM), kV pX μ (k109 μ)) (s0 : Int64) (μ : sM) : kV pX μ (X12_advance_J166 k109 s0 μ) := by
  unfold X12_advance_J166
  exact kV_to (keep_wI rfl (keep_wL rfl keep_r)) (hk109 (wI (wL μ 13 0 19 s0) 13 0 16 ((rI μ 13 0 16) + 1)))
theorem X12_advance_L109_kp : ∀ (n : Nat) (μ : sM), kV pX μ (X12_advance_L109 n μ) := by
  intro n
  induction n with
  | zero =>
    intros
    exact kV_none
  | succ n ih =>
    intro μ
    unfold X12_advance_L109
    refine kV_bI keep_r (X12_look2_kp (rI μ 13 0 16) μ) (fun x1 μ2 h_μ2 => ?_)
    refine kV_bI h_μ2 (X12_isLetter_kp x1 μ2) (fun x3 μ4 h_μ4 => ?_)
    refine kV_ite ?_ ?_
    · exact kV_some (keep_wI rfl h_μ4)
    · refine kV_ite ?_ ?_
      · exact kV_to h_μ4 (X12_advance_J166_kp ih (-1) μ4)
      · refine kV_bI h_μ4 (X12_look2_kp (rI μ4 13 0 16) μ4) (fun x5 μ6 h_μ6 => ?_)
        exact kV_to h_μ6 (X12_advance_J166_kp ih ((((rL μ4 13 0 19) * 32) + (Int32.toInt64 x5)) - 96) μ6)
theorem X12_advance_J260_kp {k210 : sM → Option sM} (hk210 : ∀ (μ : sM), kV pX μ (k210 μ)) (μ : sM) : kV pX μ (X12_advance_J260 k210 μ) := by
  unfold X12_advance_J260
  exact kV_to (keep_wI rfl keep_r) (hk210 (wI μ 13 0 16 ((rI μ 13 0 16) + 1)))
theorem X12_advance_L210_kp : ∀ (n : Nat) (μ : sM), kV pX μ (X12_advance_L210 n μ) := by
  intro n
  induction n with
  | zero =>
    intros
    exact kV_none
  | succ n ih =>
    intro μ
    unfold X12_advance_L210
    refine kV_bI keep_r (X12_look2_kp (rI μ 13 0 16) μ) (fun x1 μ2 h_μ2 => ?_)
    refine kV_bI h_μ2 (X12_isDigit_kp x1 μ2) (fun x3 μ4 h_μ4 => ?_)
    refine kV_ite ?_ ?_
    · refine kV_ite ?_ ?_
      · exact kV_some (keep_wI rfl h_μ4)
      · exact kV_some (keep_wI rfl h_μ4)
    · refine kV_ite ?_ ?_
      · exact kV_to h_μ4 (X12_advance_J260_kp ih μ4)
      · refine kV_bI h_μ4 (X12_look2_kp (rI μ4 13 0 16) μ4) (fun x5 μ6 h_μ6 => ?_)
        exact kV_to (keep_wI rfl h_μ6) (X12_advance_J260_kp ih (wI μ6 13 0 17 (((10 * (rI μ4 13 0 17)) + x5) - 48)))
theorem X12_advance_J58_kp (μ : sM) : kV pX μ (X12_advance_J58 μ) := by
  unfold X12_advance_J58
  refine kV_ite ?_ ?_
  · refine kV_bI (keep_wI rfl keep_r) (X12_look2_kp (rI μ 13 0 15) (wI μ 13 0 16 (rI μ 13 0 15))) (fun x1 μ2 h_μ2 => ?_)
    refine kV_bI h_μ2 (X12_isLetter_kp x1 μ2) (fun x3 μ4 h_μ4 => ?_)
    refine kV_ite ?_ ?_
    · refine kV_bI h_μ4 (X12_isDigit_kp x1 μ4) (fun x5 μ6 h_μ6 => ?_)
      refine kV_ite ?_ ?_
      · refine kV_bI (keep_wI rfl (keep_wI rfl h_μ6)) (X12_isSignByte_kp x1 (wI (wI μ6 13 0 16 ((rI μ6 13 0 15) + 1)) 13 0 17 x1)) (fun x7 μ8 h_μ8 => ?_)
        refine kV_ite ?_ ?_
        · exact kV_some (keep_wI rfl h_μ8)
        · exact kV_some (keep_wI rfl h_μ8)
      · exact kV_to (keep_wI rfl h_μ6) (X12_advance_L210_kp fuN (wI μ6 13 0 17 0))
    · exact kV_to (keep_wL rfl (keep_wI rfl h_μ4)) (X12_advance_L109_kp fuN (wL (wI μ4 13 0 14 1) 13 0 19 0))
  · exact kV_some (keep_wI rfl (keep_wI rfl keep_r))
theorem X12_advance_L8_kp : ∀ (n : Nat) (μ : sM), kV pX μ (X12_advance_L8 n μ) := by
  intro n
  induction n with
  | zero =>
    intros
    exact kV_none
  | succ n ih =>
    intro μ
    unfold X12_advance_L8
    refine kV_ite ?_ ?_
    · exact kV_to keep_r (X12_advance_J58_kp μ)
    · refine kV_bI keep_r (X12_look2_kp (rI μ 13 0 15) μ) (fun x1 μ2 h_μ2 => ?_)
      refine kV_ite ?_ ?_
      · exact kV_to h_μ2 (X12_advance_J45_kp ih μ2)
      · refine kV_bI h_μ2 (X12_look2_kp (rI μ2 13 0 15) μ2) (fun x3 μ4 h_μ4 => ?_)
        refine kV_ite ?_ ?_
        · exact kV_to h_μ4 (X12_advance_J45_kp ih μ4)
        · exact kV_to h_μ4 (X12_advance_J58_kp μ4)
theorem X12_advance_kp (μ : sM) : kV pX μ (X12_advance μ) := by
  unfold X12_advance
  exact kV_to (keep_wI rfl keep_r) (X12_advance_L8_kp fuN (wI μ 13 0 15 (rI μ 13 0 16)))
/-! ClockRiverModel.starts -/
theorem X12_starts_J17_kp (μ : sM) : kI pX μ (X12_starts_J17 μ) := by
  unfold X12_starts_J17
  refine kI_bI keep_r (X12_no_kp 5 μ) (fun x1 μ2 h_μ2 => ?_)
  refine kI_ck ?_
  exact kI_some h_μ2
theorem X12_starts_kp (a1 : Int32) (a2 : Int32) (μ : sM) : kI pX μ (X12_starts a1 a2 μ) := by
  unfold X12_starts
  refine kI_ite ?_ ?_
  · exact kI_to keep_r (X12_starts_J17_kp μ)
  · refine kI_ite ?_ ?_
    · exact kI_to keep_r (X12_starts_J17_kp μ)
    · refine kI_ite ?_ ?_
      · refine kI_bV (keep_wI rfl (keep_wI rfl (keep_wI rfl (keep_wI rfl keep_r)))) (X12_advance_kp (wI (wI (wI (wI μ 13 0 9 a1) 13 0 8 0) 13 0 16 0) 13 0 12 0)) (fun μ2 h_μ2 => ?_)
        exact kI_some h_μ2
      · exact kI_to keep_r (X12_starts_J17_kp μ)
/-! ClockRiverModel.empties -/
theorem X12_empties_L8_kp : ∀ (n : Nat) (v2 : Int32) (v3 : Int32) (μ : sM), kV pX μ (X12_empties_L8 n v2 v3 μ) := by
  intro n
  induction n with
  | zero =>
    intros
    exact kV_none
  | succ n ih =>
    intro v2 v3 μ
    unfold X12_empties_L8
    refine kV_ite ?_ ?_
    · refine kV_ck ?_
      refine kV_ck ?_
      refine kV_ck ?_
      exact kV_some (keep_wI rfl (keep_wI rfl (keep_wI rfl keep_r)))
    · refine kV_ck ?_
      exact kV_to (keep_wI rfl keep_r) (ih v2 (v3 + 1) (wI μ 61 0 (ix (v2 + v3)) 0))
theorem X12_empties_kp (a1 : Int32) (μ : sM) : kV pX μ (X12_empties a1 μ) := by
  unfold X12_empties
  exact kV_to keep_r (X12_empties_L8_kp fuN (348 * a1) 0 μ)
/-! ClockRiverModel.spelled -/
theorem X12_spelled_J91_kp (v5 : Int32) (s0 : Int64) (μ : sM) : kL pX μ (X12_spelled_J91 v5 s0 μ) := by
  unfold X12_spelled_J91
  refine kL_ite ?_ ?_
  · exact kL_some keep_r
  · exact kL_some keep_r
theorem X12_spelled_J65_kp (v4 : Int32) (v5 : Int32) (s0 : Int64) (μ : sM) : kL pX μ (X12_spelled_J65 v4 v5 s0 μ) := by
  unfold X12_spelled_J65
  refine kL_ite ?_ ?_
  · exact kL_to keep_r (X12_spelled_J91_kp v5 s0 μ)
  · exact kL_to keep_r (X12_spelled_J91_kp v5 (((s0 * 32) + (Int32.toInt64 v4)) - 96) μ)
theorem X12_spelled_J41_kp (v3 : Int32) (v4 : Int32) (v5 : Int32) (s0 : Int64) (μ : sM) : kL pX μ (X12_spelled_J41 v3 v4 v5 s0 μ) := by
  unfold X12_spelled_J41
  refine kL_ite ?_ ?_
  · exact kL_to keep_r (X12_spelled_J65_kp v4 v5 s0 μ)
  · exact kL_to keep_r (X12_spelled_J65_kp v4 v5 (((s0 * 32) + (Int32.toInt64 v3)) - 96) μ)
theorem X12_spelled_kp (a0 : Int32) (a1 : Int32) (a2 : Int32) (a3 : Int32) (a4 : Int32) (a5 : Int32) (μ : sM) : kL pX μ (X12_spelled a0 a1 a2 a3 a4 a5 μ) := by
  unfold X12_spelled
  refine kL_ite ?_ ?_
  · exact kL_to keep_r (X12_spelled_J41_kp a3 a4 a5 (((((Int32.toInt64 a0) - 96) * 32) + (Int32.toInt64 a1)) - 96) μ)
  · exact kL_to keep_r (X12_spelled_J41_kp a3 a4 a5 ((((((((Int32.toInt64 a0) - 96) * 32) + (Int32.toInt64 a1)) - 96) * 32) + (Int32.toInt64 a2)) - 96) μ)
/-! ClockRiverModel.isWord -/
theorem X12_isWord_kp (a1 : Int64) (μ : sM) : kI pX μ (X12_isWord a1 μ) := by
  unfold X12_isWord
  refine kI_ite ?_ ?_
  · refine kI_ite ?_ ?_
    · exact kI_some keep_r
    · exact kI_some keep_r
  · exact kI_some keep_r
/-! ClockRiverModel.isTurns -/
theorem X12_isTurns_kp (μ : sM) : kI pX μ (X12_isTurns μ) := by
  unfold X12_isTurns
  refine kI_bL keep_r (X12_spelled_kp 116 117 114 110 115 0 μ) (fun x1 μ2 h_μ2 => ?_)
  refine kI_bI h_μ2 (X12_isWord_kp x1 μ2) (fun x3 μ4 h_μ4 => ?_)
  refine kI_ck ?_
  exact kI_some h_μ4
/-! ClockRiverModel.has -/
theorem X12_has_kp (a0 : Int32) (a1 : Int32) (μ : sM) : kI pX μ (X12_has a0 a1 μ) := by
  unfold X12_has
  refine kI_ite ?_ ?_
  · exact kI_some keep_r
  · exact kI_some keep_r
/-! ClockRiverModel.fail -/
theorem X12_fail_kp (a1 : Int32) (a2 : Int32) (μ : sM) : kV pX μ (X12_fail a1 a2 μ) := by
  unfold X12_fail
  refine kV_ite ?_ ?_
  · exact kV_some (keep_wI rfl (keep_wI rfl keep_r))
  · exact kV_some keep_r
/-! ClockRiverModel.amiss -/
theorem X12_amiss_J14_kp (s0 : Int32) (μ : sM) : kV pX μ (X12_amiss_J14 s0 μ) := by
  unfold X12_amiss_J14
  refine kV_bV keep_r (X12_fail_kp s0 (rI μ 13 0 15) μ) (fun μ2 h_μ2 => ?_)
  exact kV_some h_μ2
theorem X12_amiss_kp (μ : sM) : kV pX μ (X12_amiss μ) := by
  unfold X12_amiss
  refine kV_ite ?_ ?_
  · exact kV_to keep_r (X12_amiss_J14_kp 1 μ)
  · exact kV_to keep_r (X12_amiss_J14_kp 2 μ)
/-! ClockRiverModel.isIn -/
theorem X12_isIn_kp (a0 : Int64) (a2 : Int64) (a4 : Int64) (μ : sM) : kI pX μ (X12_isIn a0 a2 a4 μ) := by
  unfold X12_isIn
  refine kI_ite ?_ ?_
  · exact kI_some keep_r
  · refine kI_ite ?_ ?_
    · exact kI_some keep_r
    · exact kI_some keep_r
/-! ClockRiverModel.count -/
theorem X12_count_J50_kp (μ : sM) : kI pX μ (X12_count_J50 μ) := by
  unfold X12_count_J50
  refine kI_ite ?_ ?_
  · refine kI_bV keep_r (X12_advance_kp μ) (fun μ2 h_μ2 => ?_)
    exact kI_some h_μ2
  · exact kI_some keep_r
theorem X12_count_J19_kp (v1 : Int32) (v2 : Int32) (μ : sM) : kI pX μ (X12_count_J19 v1 v2 μ) := by
  unfold X12_count_J19
  refine kI_ite ?_ ?_
  · refine kI_bI keep_r (X12_isIn_kp (Int32.toInt64 (rI μ 13 0 17)) (Int32.toInt64 v1) (Int32.toInt64 v2) μ) (fun x1 μ2 h_μ2 => ?_)
    refine kI_ite ?_ ?_
    · refine kI_bV h_μ2 (X12_fail_kp 4 (rI μ2 13 0 15) μ2) (fun μ4 h_μ4 => ?_)
      exact kI_to h_μ4 (X12_count_J50_kp μ4)
    · exact kI_to h_μ2 (X12_count_J50_kp μ2)
  · exact kI_to keep_r (X12_count_J50_kp μ)
theorem X12_count_kp (a1 : Int32) (a2 : Int32) (μ : sM) : kI pX μ (X12_count a1 a2 μ) := by
  unfold X12_count
  refine kI_ite ?_ ?_
  · refine kI_ite ?_ ?_
    · exact kI_to keep_r (X12_count_J19_kp a1 a2 μ)
    · refine kI_bV keep_r (X12_amiss_kp μ) (fun μ2 h_μ2 => ?_)
      exact kI_to h_μ2 (X12_count_J19_kp a1 a2 μ2)
  · exact kI_to keep_r (X12_count_J19_kp a1 a2 μ)
/-! ClockRiverModel.readOnce -/
theorem X12_readOnce_J20_kp (v1 : Int32) (v2 : Int32) (v3 : Int32) (μ : sM) : kV pX μ (X12_readOnce_J20 v1 v2 v3 μ) := by
  unfold X12_readOnce_J20
  refine kV_ite ?_ ?_
  · refine kV_bV (keep_wI rfl keep_r) (X12_advance_kp (wI μ 13 0 25 ((rI μ 13 0 25) ||| (isl 1 v1)))) (fun μ2 h_μ2 => ?_)
    refine kV_bI h_μ2 (X12_count_kp 0 v3 μ2) (fun x3 μ4 h_μ4 => ?_)
    refine kV_ck ?_
    exact kV_some (keep_wI rfl h_μ4)
  · exact kV_some keep_r
theorem X12_readOnce_kp (a1 : Int32) (a2 : Int32) (a3 : Int32) (μ : sM) : kV pX μ (X12_readOnce a1 a2 a3 μ) := by
  unfold X12_readOnce
  refine kV_bI keep_r (X12_has_kp (rI μ 13 0 25) a1 μ) (fun x1 μ2 h_μ2 => ?_)
  refine kV_ite ?_ ?_
  · exact kV_to h_μ2 (X12_readOnce_J20_kp a1 a2 a3 μ2)
  · refine kV_bV h_μ2 (X12_fail_kp 5 (rI μ2 13 0 15) μ2) (fun μ4 h_μ4 => ?_)
    exact kV_to h_μ4 (X12_readOnce_J20_kp a1 a2 a3 μ4)
/-! ClockRiverModel.isSlack -/
theorem X12_isSlack_kp (μ : sM) : kI pX μ (X12_isSlack μ) := by
  unfold X12_isSlack
  refine kI_bL keep_r (X12_spelled_kp 115 108 97 99 107 0 μ) (fun x1 μ2 h_μ2 => ?_)
  refine kI_bI h_μ2 (X12_isWord_kp x1 μ2) (fun x3 μ4 h_μ4 => ?_)
  refine kI_ck ?_
  exact kI_some h_μ4
/-! ClockRiverModel.isGate -/
theorem X12_isGate_kp (μ : sM) : kI pX μ (X12_isGate μ) := by
  unfold X12_isGate
  refine kI_bL keep_r (X12_spelled_kp 103 97 116 101 0 0 μ) (fun x1 μ2 h_μ2 => ?_)
  refine kI_bI h_μ2 (X12_isWord_kp x1 μ2) (fun x3 μ4 h_μ4 => ?_)
  refine kI_ck ?_
  exact kI_some h_μ4
/-! ClockRiverModel.stepWord -/
theorem X12_stepWord_kp (μ : sM) : kI pX μ (X12_stepWord μ) := by
  unfold X12_stepWord
  refine kI_bL keep_r (X12_spelled_kp 104 111 117 114 0 0 μ) (fun x1 μ2 h_μ2 => ?_)
  refine kI_bI h_μ2 (X12_isWord_kp x1 μ2) (fun x3 μ4 h_μ4 => ?_)
  refine kI_ite ?_ ?_
  · refine kI_bL h_μ4 (X12_spelled_kp 119 105 110 100 0 0 μ4) (fun x5 μ6 h_μ6 => ?_)
    refine kI_bI h_μ6 (X12_isWord_kp x5 μ6) (fun x7 μ8 h_μ8 => ?_)
    refine kI_ite ?_ ?_
    · refine kI_bL h_μ8 (X12_spelled_kp 111 105 108 0 0 0 μ8) (fun x9 μ10 h_μ10 => ?_)
      refine kI_bI h_μ10 (X12_isWord_kp x9 μ10) (fun x11 μ12 h_μ12 => ?_)
      refine kI_ite ?_ ?_
      · refine kI_bI h_μ12 (X12_isGate_kp μ12) (fun x13 μ14 h_μ14 => ?_)
        refine kI_ite ?_ ?_
        · refine kI_bL h_μ14 (X12_spelled_kp 114 97 105 110 0 0 μ14) (fun x15 μ16 h_μ16 => ?_)
          refine kI_bI h_μ16 (X12_isWord_kp x15 μ16) (fun x17 μ18 h_μ18 => ?_)
          refine kI_ite ?_ ?_
          · refine kI_bL h_μ18 (X12_spelled_kp 100 114 121 0 0 0 μ18) (fun x19 μ20 h_μ20 => ?_)
            refine kI_bI h_μ20 (X12_isWord_kp x19 μ20) (fun x21 μ22 h_μ22 => ?_)
            refine kI_ite ?_ ?_
            · refine kI_bL h_μ22 (X12_spelled_kp 97 110 121 0 0 0 μ22) (fun x23 μ24 h_μ24 => ?_)
              refine kI_bI h_μ24 (X12_isWord_kp x23 μ24) (fun x25 μ26 h_μ26 => ?_)
              refine kI_ite ?_ ?_
              · refine kI_bL h_μ26 (X12_spelled_kp 119 104 101 110 0 0 μ26) (fun x27 μ28 h_μ28 => ?_)
                refine kI_bI h_μ28 (X12_isWord_kp x27 μ28) (fun x29 μ30 h_μ30 => ?_)
                refine kI_ite ?_ ?_
                · refine kI_bL h_μ30 (X12_spelled_kp 108 111 111 112 0 0 μ30) (fun x31 μ32 h_μ32 => ?_)
                  refine kI_bI h_μ32 (X12_isWord_kp x31 μ32) (fun x33 μ34 h_μ34 => ?_)
                  refine kI_ite ?_ ?_
                  · refine kI_bL h_μ34 (X12_spelled_kp 115 116 111 112 0 0 μ34) (fun x35 μ36 h_μ36 => ?_)
                    refine kI_bI h_μ36 (X12_isWord_kp x35 μ36) (fun x37 μ38 h_μ38 => ?_)
                    refine kI_ite ?_ ?_
                    · exact kI_some h_μ38
                    · exact kI_some h_μ38
                  · exact kI_some h_μ34
                · exact kI_some h_μ30
              · exact kI_some h_μ26
            · exact kI_some h_μ22
          · exact kI_some h_μ18
        · exact kI_some h_μ14
      · exact kI_some h_μ12
    · exact kI_some h_μ8
  · exact kI_some h_μ4
/-! ClockRiverModel.isOdds -/
theorem X12_isOdds_kp (μ : sM) : kI pX μ (X12_isOdds μ) := by
  unfold X12_isOdds
  refine kI_bL keep_r (X12_spelled_kp 111 100 100 115 0 0 μ) (fun x1 μ2 h_μ2 => ?_)
  refine kI_bI h_μ2 (X12_isWord_kp x1 μ2) (fun x3 μ4 h_μ4 => ?_)
  refine kI_ck ?_
  exact kI_some h_μ4
/-! ClockRiverModel.isReach -/
theorem X12_isReach_kp (μ : sM) : kI pX μ (X12_isReach μ) := by
  unfold X12_isReach
  refine kI_bL keep_r (X12_spelled_kp 114 101 97 99 104 0 μ) (fun x1 μ2 h_μ2 => ?_)
  refine kI_bI h_μ2 (X12_isWord_kp x1 μ2) (fun x3 μ4 h_μ4 => ?_)
  refine kI_ck ?_
  exact kI_some h_μ4
/-! ClockRiverModel.isBank -/
theorem X12_isBank_kp (μ : sM) : kI pX μ (X12_isBank μ) := by
  unfold X12_isBank
  refine kI_bL keep_r (X12_spelled_kp 98 97 110 107 0 0 μ) (fun x1 μ2 h_μ2 => ?_)
  refine kI_bI h_μ2 (X12_isWord_kp x1 μ2) (fun x3 μ4 h_μ4 => ?_)
  refine kI_ck ?_
  exact kI_some h_μ4
/-! ClockRiverModel.isHolds -/
theorem X12_isHolds_kp (μ : sM) : kI pX μ (X12_isHolds μ) := by
  unfold X12_isHolds
  refine kI_bL keep_r (X12_spelled_kp 104 111 108 100 115 0 μ) (fun x1 μ2 h_μ2 => ?_)
  refine kI_bI h_μ2 (X12_isWord_kp x1 μ2) (fun x3 μ4 h_μ4 => ?_)
  refine kI_ck ?_
  exact kI_some h_μ4
/-! ClockRiverModel.isMill -/
theorem X12_isMill_kp (μ : sM) : kI pX μ (X12_isMill μ) := by
  unfold X12_isMill
  refine kI_bL keep_r (X12_spelled_kp 109 105 108 108 0 0 μ) (fun x1 μ2 h_μ2 => ?_)
  refine kI_bI h_μ2 (X12_isWord_kp x1 μ2) (fun x3 μ4 h_μ4 => ?_)
  refine kI_ck ?_
  exact kI_some h_μ4
/-! ClockRiverModel.isAt -/
theorem X12_isAt_kp (μ : sM) : kI pX μ (X12_isAt μ) := by
  unfold X12_isAt
  refine kI_bL keep_r (X12_spelled_kp 97 116 0 0 0 0 μ) (fun x1 μ2 h_μ2 => ?_)
  refine kI_bI h_μ2 (X12_isWord_kp x1 μ2) (fun x3 μ4 h_μ4 => ?_)
  refine kI_ck ?_
  exact kI_some h_μ4
/-! ClockRiverModel.isNeeds -/
theorem X12_isNeeds_kp (μ : sM) : kI pX μ (X12_isNeeds μ) := by
  unfold X12_isNeeds
  refine kI_bL keep_r (X12_spelled_kp 110 101 101 100 115 0 μ) (fun x1 μ2 h_μ2 => ?_)
  refine kI_bI h_μ2 (X12_isWord_kp x1 μ2) (fun x3 μ4 h_μ4 => ?_)
  refine kI_ck ?_
  exact kI_some h_μ4
/-! ClockRiverModel.isWinder -/
theorem X12_isWinder_kp (μ : sM) : kI pX μ (X12_isWinder μ) := by
  unfold X12_isWinder
  refine kI_bL keep_r (X12_spelled_kp 119 105 110 100 101 114 μ) (fun x1 μ2 h_μ2 => ?_)
  refine kI_bI h_μ2 (X12_isWord_kp x1 μ2) (fun x3 μ4 h_μ4 => ?_)
  refine kI_ck ?_
  exact kI_some h_μ4
/-! ClockRiverModel.isStrength -/
theorem X12_isStrength_kp (μ : sM) : kI pX μ (X12_isStrength μ) := by
  unfold X12_isStrength
  refine kI_bL keep_r (X12_spelled_kp 115 116 114 101 110 103 μ) (fun x1 μ2 h_μ2 => ?_)
  refine kI_bI h_μ2 (X12_isWord_kp ((((x1 * 32) + 20) * 32) + 8) μ2) (fun x3 μ4 h_μ4 => ?_)
  refine kI_ck ?_
  exact kI_some h_μ4
/-! ClockRiverModel.isWage -/
theorem X12_isWage_kp (μ : sM) : kI pX μ (X12_isWage μ) := by
  unfold X12_isWage
  refine kI_bL keep_r (X12_spelled_kp 119 97 103 101 0 0 μ) (fun x1 μ2 h_μ2 => ?_)
  refine kI_bI h_μ2 (X12_isWord_kp x1 μ2) (fun x3 μ4 h_μ4 => ?_)
  refine kI_ck ?_
  exact kI_some h_μ4
/-! ClockRiverModel.isBack -/
theorem X12_isBack_kp (μ : sM) : kI pX μ (X12_isBack μ) := by
  unfold X12_isBack
  refine kI_bL keep_r (X12_spelled_kp 98 97 99 107 0 0 μ) (fun x1 μ2 h_μ2 => ?_)
  refine kI_bI h_μ2 (X12_isWord_kp x1 μ2) (fun x3 μ4 h_μ4 => ?_)
  refine kI_ck ?_
  exact kI_some h_μ4
/-! ClockRiverModel.testWord -/
theorem X12_testWord_kp (μ : sM) : kI pX μ (X12_testWord μ) := by
  unfold X12_testWord
  refine kI_bL keep_r (X12_spelled_kp 115 116 111 114 101 100 μ) (fun x1 μ2 h_μ2 => ?_)
  refine kI_bI h_μ2 (X12_isWord_kp x1 μ2) (fun x3 μ4 h_μ4 => ?_)
  refine kI_ite ?_ ?_
  · refine kI_bL h_μ4 (X12_spelled_kp 103 114 111 117 110 100 μ4) (fun x5 μ6 h_μ6 => ?_)
    refine kI_bI h_μ6 (X12_isWord_kp x5 μ6) (fun x7 μ8 h_μ8 => ?_)
    refine kI_ite ?_ ?_
    · refine kI_bL h_μ8 (X12_spelled_kp 114 97 105 110 105 110 μ8) (fun x9 μ10 h_μ10 => ?_)
      refine kI_bI h_μ10 (X12_isWord_kp ((x9 * 32) + 7) μ10) (fun x11 μ12 h_μ12 => ?_)
      refine kI_ite ?_ ?_
      · exact kI_some h_μ12
      · exact kI_some h_μ12
    · exact kI_some h_μ8
  · exact kI_some h_μ4
/-! ClockRiverModel.isEnd -/
theorem X12_isEnd_kp (μ : sM) : kI pX μ (X12_isEnd μ) := by
  unfold X12_isEnd
  refine kI_bL keep_r (X12_spelled_kp 101 110 100 0 0 0 μ) (fun x1 μ2 h_μ2 => ?_)
  refine kI_bI h_μ2 (X12_isWord_kp x1 μ2) (fun x3 μ4 h_μ4 => ?_)
  refine kI_ck ?_
  exact kI_some h_μ4
/-! ClockRiverModel.isKept -/
theorem X12_isKept_kp (μ : sM) : kI pX μ (X12_isKept μ) := by
  unfold X12_isKept
  refine kI_bI keep_r (X12_isTurns_kp μ) (fun x1 μ2 h_μ2 => ?_)
  refine kI_ite ?_ ?_
  · refine kI_bI h_μ2 (X12_isSlack_kp μ2) (fun x3 μ4 h_μ4 => ?_)
    refine kI_ite ?_ ?_
    · refine kI_bI h_μ4 (X12_isOdds_kp μ4) (fun x5 μ6 h_μ6 => ?_)
      refine kI_ite ?_ ?_
      · refine kI_bI h_μ6 (X12_isReach_kp μ6) (fun x7 μ8 h_μ8 => ?_)
        refine kI_ite ?_ ?_
        · refine kI_bI h_μ8 (X12_isBank_kp μ8) (fun x9 μ10 h_μ10 => ?_)
          refine kI_ite ?_ ?_
          · refine kI_bI h_μ10 (X12_isHolds_kp μ10) (fun x11 μ12 h_μ12 => ?_)
            refine kI_ite ?_ ?_
            · refine kI_bI h_μ12 (X12_isMill_kp μ12) (fun x13 μ14 h_μ14 => ?_)
              refine kI_ite ?_ ?_
              · refine kI_bI h_μ14 (X12_isAt_kp μ14) (fun x15 μ16 h_μ16 => ?_)
                refine kI_ite ?_ ?_
                · refine kI_bI h_μ16 (X12_isNeeds_kp μ16) (fun x17 μ18 h_μ18 => ?_)
                  refine kI_ite ?_ ?_
                  · refine kI_bI h_μ18 (X12_isWinder_kp μ18) (fun x19 μ20 h_μ20 => ?_)
                    refine kI_ite ?_ ?_
                    · refine kI_bI h_μ20 (X12_isStrength_kp μ20) (fun x21 μ22 h_μ22 => ?_)
                      refine kI_ite ?_ ?_
                      · refine kI_bI h_μ22 (X12_isWage_kp μ22) (fun x23 μ24 h_μ24 => ?_)
                        refine kI_ite ?_ ?_
                        · refine kI_bI h_μ24 (X12_isBack_kp μ24) (fun x25 μ26 h_μ26 => ?_)
                          refine kI_ite ?_ ?_
                          · refine kI_bI h_μ26 (X12_stepWord_kp μ26) (fun x27 μ28 h_μ28 => ?_)
                            refine kI_ite ?_ ?_
                            · exact kI_some h_μ28
                            · refine kI_bI h_μ28 (X12_testWord_kp μ28) (fun x29 μ30 h_μ30 => ?_)
                              refine kI_ite ?_ ?_
                              · exact kI_some h_μ30
                              · refine kI_bI h_μ30 (X12_isEnd_kp μ30) (fun x31 μ32 h_μ32 => ?_)
                                refine kI_ite ?_ ?_
                                · exact kI_some h_μ32
                                · exact kI_some h_μ32
                          · exact kI_some h_μ26
                        · exact kI_some h_μ24
                      · exact kI_some h_μ22
                    · exact kI_some h_μ20
                  · exact kI_some h_μ18
                · exact kI_some h_μ16
              · exact kI_some h_μ14
            · exact kI_some h_μ12
          · exact kI_some h_μ10
        · exact kI_some h_μ8
      · exact kI_some h_μ6
    · exact kI_some h_μ4
  · exact kI_some h_μ2
/-! ClockRiverModel.isName -/
theorem X12_isName_kp (μ : sM) : kI pX μ (X12_isName μ) := by
  unfold X12_isName
  refine kI_ite ?_ ?_
  · refine kI_ite ?_ ?_
    · exact kI_some keep_r
    · refine kI_bI keep_r (X12_isKept_kp μ) (fun x1 μ2 h_μ2 => ?_)
      refine kI_ite ?_ ?_
      · exact kI_some h_μ2
      · exact kI_some h_μ2
  · exact kI_some keep_r
/-! ClockRiverModel.named -/
theorem X12_named_L2_kp : ∀ (n : Nat) (v1 : Int32) (v2 : Int32) (v3 : Int32) (μ : sM), kI pX μ (X12_named_L2 n v1 v2 v3 μ) := by
  intro n
  induction n with
  | zero =>
    intros
    exact kI_none
  | succ n ih =>
    intro v1 v2 v3 μ
    unfold X12_named_L2
    refine kI_ck ?_
    refine kI_ite ?_ ?_
    · exact kI_some keep_r
    · refine kI_ck ?_
      refine kI_ite ?_ ?_
      · exact kI_some keep_r
      · exact kI_to keep_r (ih v1 v2 (v3 + 1) μ)
theorem X12_named_kp (a1 : Int32) (a2 : Int32) (μ : sM) : kI pX μ (X12_named a1 a2 μ) := by
  unfold X12_named
  exact kI_to keep_r (X12_named_L2_kp fuN a1 a2 0 μ)
/-! ClockRiverModel.isTaken -/
theorem X12_isTaken_kp (μ : sM) : kI pX μ (X12_isTaken μ) := by
  unfold X12_isTaken
  refine kI_bI keep_r (X12_named_kp 4 0 μ) (fun x1 μ2 h_μ2 => ?_)
  refine kI_ite ?_ ?_
  · exact kI_some h_μ2
  · refine kI_bI h_μ2 (X12_named_kp 4 1 μ2) (fun x3 μ4 h_μ4 => ?_)
    refine kI_ite ?_ ?_
    · exact kI_some h_μ4
    · refine kI_bI h_μ4 (X12_named_kp 4 2 μ4) (fun x5 μ6 h_μ6 => ?_)
      refine kI_ite ?_ ?_
      · exact kI_some h_μ6
      · exact kI_some h_μ6
/-! ClockRiverModel.readNew -/
theorem X12_readNew_J74_kp (v1 : Int32) (v2 : Int32) (μ : sM) : kI pX μ (X12_readNew_J74 v1 v2 μ) := by
  unfold X12_readNew_J74
  refine kI_ite ?_ ?_
  · refine kI_ck ?_
    refine kI_bV (keep_wL rfl keep_r) (X12_advance_kp (wL μ 64 0 (ix ((72 + (6 * v1)) + v2)) (rL μ 13 0 19))) (fun μ2 h_μ2 => ?_)
    exact kI_some h_μ2
  · exact kI_some keep_r
theorem X12_readNew_J51_kp (v1 : Int32) (v2 : Int32) (μ : sM) : kI pX μ (X12_readNew_J51 v1 v2 μ) := by
  unfold X12_readNew_J51
  refine kI_ite ?_ ?_
  · refine kI_bI keep_r (X12_isTaken_kp μ) (fun x1 μ2 h_μ2 => ?_)
    refine kI_ite ?_ ?_
    · exact kI_to h_μ2 (X12_readNew_J74_kp v1 v2 μ2)
    · refine kI_bV h_μ2 (X12_fail_kp 3 (rI μ2 13 0 15) μ2) (fun μ4 h_μ4 => ?_)
      exact kI_to h_μ4 (X12_readNew_J74_kp v1 v2 μ4)
  · exact kI_to keep_r (X12_readNew_J74_kp v1 v2 μ)
theorem X12_readNew_J27_kp (v1 : Int32) (v2 : Int32) (μ : sM) : kI pX μ (X12_readNew_J27 v1 v2 μ) := by
  unfold X12_readNew_J27
  refine kI_ite ?_ ?_
  · refine kI_bV keep_r (X12_advance_kp μ) (fun μ2 h_μ2 => ?_)
    refine kI_bI h_μ2 (X12_isName_kp μ2) (fun x3 μ4 h_μ4 => ?_)
    refine kI_ite ?_ ?_
    · refine kI_bV h_μ4 (X12_amiss_kp μ4) (fun μ6 h_μ6 => ?_)
      exact kI_to h_μ6 (X12_readNew_J51_kp v1 v2 μ6)
    · exact kI_to h_μ4 (X12_readNew_J51_kp v1 v2 μ4)
  · exact kI_some keep_r
theorem X12_readNew_kp (a1 : Int32) (μ : sM) : kI pX μ (X12_readNew a1 μ) := by
  unfold X12_readNew
  refine kI_ck ?_
  refine kI_ite ?_ ?_
  · refine kI_bV keep_r (X12_fail_kp 6 (rI μ 13 0 15) μ) (fun μ2 h_μ2 => ?_)
    exact kI_to h_μ2 (X12_readNew_J27_kp a1 (rI μ 61 0 (ix (1392 + a1))) μ2)
  · exact kI_to keep_r (X12_readNew_J27_kp a1 (rI μ 61 0 (ix (1392 + a1))) μ)
/-! ClockRiverModel.must -/
theorem X12_must_kp (a1 : Int32) (μ : sM) : kV pX μ (X12_must a1 μ) := by
  unfold X12_must
  refine kV_ite ?_ ?_
  · refine kV_ite ?_ ?_
    · refine kV_bV keep_r (X12_amiss_kp μ) (fun μ2 h_μ2 => ?_)
      exact kV_some h_μ2
    · refine kV_bV keep_r (X12_advance_kp μ) (fun μ4 h_μ4 => ?_)
      exact kV_some h_μ4
  · exact kV_some keep_r
/-! ClockRiverModel.behindWord -/
theorem X12_behindWord_kp (a1 : Int32) (a2 : Int32) (a3 : Int32) (μ : sM) : kI pX μ (X12_behindWord a1 a2 a3 μ) := by
  unfold X12_behindWord
  refine kI_bV keep_r (X12_must_kp a1 μ) (fun μ2 h_μ2 => ?_)
  refine kI_bI h_μ2 (X12_count_kp a2 a3 μ2) (fun x3 μ4 h_μ4 => ?_)
  exact kI_some h_μ4
/-! ClockRiverModel.perhaps -/
theorem X12_perhaps_kp (a1 : Int32) (μ : sM) : kI pX μ (X12_perhaps a1 μ) := by
  unfold X12_perhaps
  refine kI_ite ?_ ?_
  · exact kI_some keep_r
  · refine kI_ite ?_ ?_
    · exact kI_some keep_r
    · refine kI_bV keep_r (X12_advance_kp μ) (fun μ2 h_μ2 => ?_)
      exact kI_some h_μ2
/-! ClockRiverModel.readReach -/
theorem X12_readReach_J52_kp (v1 : Int32) (v2 : Int32) (v3 : Int32) (s0 : Int32) (μ : sM) : kV pX μ (X12_readReach_J52 v1 v2 v3 s0 μ) := by
  unfold X12_readReach_J52
  refine kV_ite ?_ ?_
  · refine kV_ck ?_
    refine kV_ck ?_
    refine kV_ck ?_
    exact kV_some (keep_wI rfl (keep_wI rfl (keep_wI rfl (keep_wI rfl keep_r))))
  · exact kV_some keep_r
theorem X12_readReach_kp (μ : sM) : kV pX μ (X12_readReach μ) := by
  unfold X12_readReach
  refine kV_bI keep_r (X12_readNew_kp 0 μ) (fun x1 μ2 h_μ2 => ?_)
  refine kV_bI h_μ2 (X12_isBank_kp μ2) (fun x3 μ4 h_μ4 => ?_)
  refine kV_bI h_μ4 (X12_behindWord_kp x3 0 999 μ4) (fun x5 μ6 h_μ6 => ?_)
  refine kV_bI h_μ6 (X12_isGate_kp μ6) (fun x7 μ8 h_μ8 => ?_)
  refine kV_bI h_μ8 (X12_behindWord_kp x7 0 99 μ8) (fun x9 μ10 h_μ10 => ?_)
  refine kV_bI h_μ10 (X12_isHolds_kp μ10) (fun x11 μ12 h_μ12 => ?_)
  refine kV_bI h_μ12 (X12_perhaps_kp x11 μ12) (fun x13 μ14 h_μ14 => ?_)
  refine kV_ite ?_ ?_
  · exact kV_to h_μ14 (X12_readReach_J52_kp x1 x5 x9 0 μ14)
  · refine kV_bI h_μ14 (X12_count_kp 0 x5 μ14) (fun x15 μ16 h_μ16 => ?_)
    exact kV_to h_μ16 (X12_readReach_J52_kp x1 x5 x9 x15 μ16)
/-! ClockRiverModel.readTold -/
theorem X12_readTold_J47_kp (v3 : Int32) (μ : sM) : kI pX μ (X12_readTold_J47 v3 μ) := by
  unfold X12_readTold_J47
  refine kI_bV keep_r (X12_must_kp 1 μ) (fun μ2 h_μ2 => ?_)
  exact kI_some h_μ2
theorem X12_readTold_J18_kp (v1 : Int32) (v2 : Int32) (μ : sM) : kI pX μ (X12_readTold_J18 v1 v2 μ) := by
  unfold X12_readTold_J18
  refine kI_ite ?_ ?_
  · refine kI_bI keep_r (X12_named_kp v1 v2 μ) (fun x1 μ2 h_μ2 => ?_)
    refine kI_ite ?_ ?_
    · exact kI_to h_μ2 (X12_readTold_J47_kp x1 μ2)
    · refine kI_bV h_μ2 (X12_fail_kp 3 (rI μ2 13 0 15) μ2) (fun μ4 h_μ4 => ?_)
      exact kI_to h_μ4 (X12_readTold_J47_kp x1 μ4)
  · exact kI_some keep_r
theorem X12_readTold_kp (a1 : Int32) (a2 : Int32) (μ : sM) : kI pX μ (X12_readTold a1 a2 μ) := by
  unfold X12_readTold
  refine kI_ite ?_ ?_
  · refine kI_bI keep_r (X12_isName_kp μ) (fun x1 μ2 h_μ2 => ?_)
    refine kI_ite ?_ ?_
    · refine kI_bV h_μ2 (X12_amiss_kp μ2) (fun μ4 h_μ4 => ?_)
      exact kI_to h_μ4 (X12_readTold_J18_kp a1 a2 μ4)
    · exact kI_to h_μ2 (X12_readTold_J18_kp a1 a2 μ2)
  · exact kI_to keep_r (X12_readTold_J18_kp a1 a2 μ)
/-! ClockRiverModel.readMill -/
theorem X12_readMill_kp (μ : sM) : kV pX μ (X12_readMill μ) := by
  unfold X12_readMill
  refine kV_bI keep_r (X12_readNew_kp 1 μ) (fun x1 μ2 h_μ2 => ?_)
  refine kV_bI h_μ2 (X12_isAt_kp μ2) (fun x3 μ4 h_μ4 => ?_)
  refine kV_bV h_μ4 (X12_must_kp x3 μ4) (fun μ6 h_μ6 => ?_)
  refine kV_bI h_μ6 (X12_readTold_kp 4 0 μ6) (fun x7 μ8 h_μ8 => ?_)
  refine kV_bI h_μ8 (X12_isNeeds_kp μ8) (fun x9 μ10 h_μ10 => ?_)
  refine kV_bI h_μ10 (X12_behindWord_kp x9 1 99 μ10) (fun x11 μ12 h_μ12 => ?_)
  refine kV_ite ?_ ?_
  · refine kV_ck ?_
    refine kV_ck ?_
    exact kV_some (keep_wI rfl (keep_wI rfl (keep_wI rfl h_μ12)))
  · exact kV_some h_μ12
/-! ClockRiverModel.readWinder -/
theorem X12_readWinder_J40_kp (v1 : Int32) (v2 : Int32) (s0 : Int32) (μ : sM) : kV pX μ (X12_readWinder_J40 v1 v2 s0 μ) := by
  unfold X12_readWinder_J40
  refine kV_ite ?_ ?_
  · refine kV_ck ?_
    refine kV_ck ?_
    exact kV_some (keep_wI rfl (keep_wI rfl (keep_wI rfl keep_r)))
  · exact kV_some keep_r
theorem X12_readWinder_kp (μ : sM) : kV pX μ (X12_readWinder μ) := by
  unfold X12_readWinder
  refine kV_bI keep_r (X12_readNew_kp 2 μ) (fun x1 μ2 h_μ2 => ?_)
  refine kV_bI h_μ2 (X12_isStrength_kp μ2) (fun x3 μ4 h_μ4 => ?_)
  refine kV_bI h_μ4 (X12_behindWord_kp x3 1 40 μ4) (fun x5 μ6 h_μ6 => ?_)
  refine kV_bI h_μ6 (X12_isWage_kp μ6) (fun x7 μ8 h_μ8 => ?_)
  refine kV_bI h_μ8 (X12_perhaps_kp x7 μ8) (fun x9 μ10 h_μ10 => ?_)
  refine kV_ite ?_ ?_
  · exact kV_to h_μ10 (X12_readWinder_J40_kp x1 x5 1 μ10)
  · refine kV_bI h_μ10 (X12_count_kp 0 99 μ10) (fun x11 μ12 h_μ12 => ?_)
    exact kV_to h_μ12 (X12_readWinder_J40_kp x1 x5 x11 μ12)
/-! ClockRiverModel.readPart -/
theorem X12_readPart_kp (μ : sM) : kV pX μ (X12_readPart μ) := by
  unfold X12_readPart
  refine kV_bI keep_r (X12_isTurns_kp μ) (fun x1 μ2 h_μ2 => ?_)
  refine kV_ite ?_ ?_
  · refine kV_bI h_μ2 (X12_isSlack_kp μ2) (fun x3 μ4 h_μ4 => ?_)
    refine kV_ite ?_ ?_
    · refine kV_bI h_μ4 (X12_stepWord_kp μ4) (fun x5 μ6 h_μ6 => ?_)
      refine kV_ite ?_ ?_
      · refine kV_bV h_μ6 (X12_readOnce_kp 2 4 99 μ6) (fun μ26 h_μ26 => ?_)
        exact kV_some h_μ26
      · refine kV_bI h_μ6 (X12_isOdds_kp μ6) (fun x7 μ8 h_μ8 => ?_)
        refine kV_ite ?_ ?_
        · refine kV_bI h_μ8 (X12_isReach_kp μ8) (fun x9 μ10 h_μ10 => ?_)
          refine kV_ite ?_ ?_
          · refine kV_bI h_μ10 (X12_isMill_kp μ10) (fun x11 μ12 h_μ12 => ?_)
            refine kV_ite ?_ ?_
            · refine kV_bI h_μ12 (X12_isWinder_kp μ12) (fun x13 μ14 h_μ14 => ?_)
              refine kV_ite ?_ ?_
              · refine kV_bV h_μ14 (X12_amiss_kp μ14) (fun μ16 h_μ16 => ?_)
                exact kV_some h_μ16
              · refine kV_bV h_μ14 (X12_readWinder_kp μ14) (fun μ18 h_μ18 => ?_)
                exact kV_some h_μ18
            · refine kV_bV h_μ12 (X12_readMill_kp μ12) (fun μ20 h_μ20 => ?_)
              exact kV_some h_μ20
          · refine kV_bV h_μ10 (X12_readReach_kp μ10) (fun μ22 h_μ22 => ?_)
            exact kV_some h_μ22
        · refine kV_bV h_μ8 (X12_readOnce_kp 3 5 16 μ8) (fun μ24 h_μ24 => ?_)
          exact kV_some h_μ24
    · refine kV_bV h_μ4 (X12_readOnce_kp 1 3 9 μ4) (fun μ28 h_μ28 => ?_)
      exact kV_some h_μ28
  · refine kV_bV h_μ2 (X12_readOnce_kp 0 9 60 μ2) (fun μ30 h_μ30 => ?_)
    exact kV_some h_μ30
/-! ClockRiverModel.isSign -/
theorem X12_isSign_kp (a1 : Int32) (μ : sM) : kI pX μ (X12_isSign a1 μ) := by
  unfold X12_isSign
  refine kI_ite ?_ ?_
  · refine kI_ite ?_ ?_
    · exact kI_some keep_r
    · exact kI_some keep_r
  · exact kI_some keep_r
/-! ClockRiverModel.isWell -/
theorem X12_isWell_J24_kp (s0 : Int32) (μ : sM) : kI pX μ (X12_isWell_J24 s0 μ) := by
  unfold X12_isWell_J24
  refine kI_ite ?_ ?_
  · exact kI_some (keep_wI rfl keep_r)
  · refine kI_bI (keep_wI rfl keep_r) (X12_no_kp 10 (wI μ 13 0 11 s0)) (fun x1 μ2 h_μ2 => ?_)
    refine kI_ite ?_ ?_
    · exact kI_some h_μ2
    · exact kI_some h_μ2
theorem X12_isWell_kp (μ : sM) : kI pX μ (X12_isWell μ) := by
  unfold X12_isWell
  refine kI_ite ?_ ?_
  · exact kI_to (keep_wI rfl keep_r) (X12_isWell_J24_kp (-1) (wI μ 13 0 10 (rI μ 13 0 12)))
  · exact kI_to (keep_wI rfl keep_r) (X12_isWell_J24_kp (rI μ 13 0 13) (wI μ 13 0 10 (rI μ 13 0 12)))
/-! ClockRiverModel.copy -/
theorem X12_copy_L41_kp : ∀ (n : Nat) (v1 : Int32) (v2 : Int32) (v3 : Int32) (μ : sM), kV pX μ (X12_copy_L41 n v1 v2 v3 μ) := by
  intro n
  induction n with
  | zero =>
    intros
    exact kV_none
  | succ n ih =>
    intro v1 v2 v3 μ
    unfold X12_copy_L41
    refine kV_ite ?_ ?_
    · exact kV_some keep_r
    · refine kV_ck ?_
      refine kV_ck ?_
      exact kV_to (keep_wL rfl keep_r) (ih v1 v2 (v3 + 1) (wL μ 64 0 (ix ((18 * v2) + v3)) (rL μ 64 0 (ix ((18 * v1) + v3)))))
theorem X12_copy_L2_kp : ∀ (n : Nat) (v1 : Int32) (v2 : Int32) (v3 : Int32) (μ : sM), kV pX μ (X12_copy_L2 n v1 v2 v3 μ) := by
  intro n
  induction n with
  | zero =>
    intros
    exact kV_none
  | succ n ih =>
    intro v1 v2 v3 μ
    unfold X12_copy_L2
    refine kV_ite ?_ ?_
    · exact kV_to keep_r (X12_copy_L41_kp fuN v1 v2 0 μ)
    · refine kV_ck ?_
      refine kV_ck ?_
      exact kV_to (keep_wI rfl keep_r) (ih v1 v2 (v3 + 1) (wI μ 61 0 (ix ((348 * v2) + v3)) (rI μ 61 0 (ix ((348 * v1) + v3)))))
theorem X12_copy_kp (a1 : Int32) (a2 : Int32) (μ : sM) : kV pX μ (X12_copy a1 a2 μ) := by
  unfold X12_copy
  exact kV_to keep_r (X12_copy_L2_kp fuN a1 a2 0 μ)
/-! ClockRiverModel.river -/
theorem X12_river_J64_kp (μ : sM) : kI pX μ (X12_river_J64 μ) := by
  unfold X12_river_J64
  refine kI_bI keep_r (X12_isWell_kp μ) (fun x1 μ2 h_μ2 => ?_)
  refine kI_ite ?_ ?_
  · exact kI_some h_μ2
  · refine kI_bV h_μ2 (X12_copy_kp 4 0 μ2) (fun μ4 h_μ4 => ?_)
    exact kI_some h_μ4
theorem X12_river_L33_kp : ∀ (n : Nat) (μ : sM), kI pX μ (X12_river_L33 n μ) := by
  intro n
  induction n with
  | zero =>
    intros
    exact kI_none
  | succ n ih =>
    intro μ
    unfold X12_river_L33
    refine kI_ite ?_ ?_
    · refine kI_ite ?_ ?_
      · exact kI_to keep_r (X12_river_J64_kp μ)
      · refine kI_bV keep_r (X12_readPart_kp μ) (fun μ2 h_μ2 => ?_)
        refine kI_bI h_μ2 (X12_isSign_kp 59 μ2) (fun x3 μ4 h_μ4 => ?_)
        refine kI_bV h_μ4 (X12_must_kp x3 μ4) (fun μ6 h_μ6 => ?_)
        exact kI_to h_μ6 (ih μ6)
    · exact kI_to keep_r (X12_river_J64_kp μ)
theorem X12_river_kp (a1 : Int32) (μ : sM) : kI pX μ (X12_river a1 μ) := by
  unfold X12_river
  refine kI_bI (keep_wI rfl (keep_wI rfl keep_r)) (X12_starts_kp a1 900 (wI (wI μ 13 0 1 0) 13 0 0 0)) (fun x1 μ2 h_μ2 => ?_)
  refine kI_ite ?_ ?_
  · exact kI_some h_μ2
  · refine kI_bV h_μ2 (X12_empties_kp 4 μ2) (fun μ4 h_μ4 => ?_)
    exact kI_to (keep_wI rfl h_μ4) (X12_river_L33_kp fuN (wI μ4 13 0 25 0))
/-! ClockRiverModel.readTest -/
theorem X12_readTest_J138_kp (s0 : Int32) (s1 : Int32) (s3 : Int32) (μ : sM) : kV pX μ (X12_readTest_J138 s0 s1 s3 μ) := by
  unfold X12_readTest_J138
  refine kV_bI keep_r (X12_count_kp s1 s0 μ) (fun x1 μ2 h_μ2 => ?_)
  refine kV_ck ?_
  exact kV_some (keep_wI rfl h_μ2)
theorem X12_readTest_J113_kp (v1 : Int32) (v2 : Int32) (s0 : Int32) (μ : sM) : kV pX μ (X12_readTest_J113 v1 v2 s0 μ) := by
  unfold X12_readTest_J113
  refine kV_bV keep_r (X12_must_kp s0 μ) (fun μ2 h_μ2 => ?_)
  refine kV_ite ?_ ?_
  · exact kV_to h_μ2 (X12_readTest_J138_kp 999 0 (v1 + 2) μ2)
  · exact kV_to h_μ2 (X12_readTest_J138_kp 9999 0 (v1 + 2) μ2)
theorem X12_readTest_J108_kp (v1 : Int32) (v2 : Int32) (μ : sM) : kV pX μ (X12_readTest_J108 v1 v2 μ) := by
  unfold X12_readTest_J108
  exact kV_to keep_r (X12_readTest_J113_kp v1 v2 1 μ)
theorem X12_readTest_J79_kp (v1 : Int32) (v2 : Int32) (s0 : Int32) (s1 : Int32) (μ : sM) : kV pX μ (X12_readTest_J79 v1 v2 s0 s1 μ) := by
  unfold X12_readTest_J79
  refine kV_ck ?_
  refine kV_bI (keep_wI rfl keep_r) (X12_isSign_kp 60 (wI μ 61 0 (ix s1) s0)) (fun x1 μ2 h_μ2 => ?_)
  refine kV_ite ?_ ?_
  · refine kV_bI h_μ2 (X12_isSign_kp 62 μ2) (fun x3 μ4 h_μ4 => ?_)
    refine kV_ite ?_ ?_
    · refine kV_bI h_μ4 (X12_isSign_kp 61 μ4) (fun x5 μ6 h_μ6 => ?_)
      refine kV_ite ?_ ?_
      · exact kV_to h_μ6 (X12_readTest_J113_kp v1 v2 0 μ6)
      · exact kV_to h_μ6 (X12_readTest_J108_kp v1 v2 μ6)
    · exact kV_to h_μ4 (X12_readTest_J108_kp v1 v2 μ4)
  · exact kV_to h_μ2 (X12_readTest_J108_kp v1 v2 μ2)
theorem X12_readTest_J15_kp (v1 : Int32) (v2 : Int32) (s0 : Int32) (μ : sM) : kV pX μ (X12_readTest_J15 v1 v2 s0 μ) := by
  unfold X12_readTest_J15
  refine kV_bV keep_r (X12_must_kp s0 μ) (fun μ2 h_μ2 => ?_)
  refine kV_ck ?_
  refine kV_ite ?_ ?_
  · exact kV_some (keep_wI rfl h_μ2)
  · refine kV_ite ?_ ?_
    · exact kV_some (keep_wI rfl h_μ2)
    · refine kV_bI (keep_wI rfl h_μ2) (X12_readTold_kp 0 v2 (wI μ2 61 0 (ix (v1 + 6)) v2)) (fun x3 μ4 h_μ4 => ?_)
      refine kV_ck ?_
      refine kV_ite ?_ ?_
      · exact kV_to (keep_wI rfl h_μ4) (X12_readTest_J79_kp v1 v2 (rI μ4 13 0 17) (v1 + 7) (wI μ4 61 0 (ix (v1 + 1)) x3))
      · exact kV_to (keep_wI rfl h_μ4) (X12_readTest_J79_kp v1 v2 0 (v1 + 7) (wI μ4 61 0 (ix (v1 + 1)) x3))
theorem X12_readTest_kp (a1 : Int32) (μ : sM) : kV pX μ (X12_readTest a1 μ) := by
  unfold X12_readTest
  refine kV_bI keep_r (X12_testWord_kp μ) (fun x1 μ2 h_μ2 => ?_)
  refine kV_ite ?_ ?_
  · exact kV_to h_μ2 (X12_readTest_J15_kp a1 x1 0 μ2)
  · exact kV_to h_μ2 (X12_readTest_J15_kp a1 x1 1 μ2)
/-! ClockRiverModel.readRest -/
theorem X12_readRest_J109_kp (s0 : Int32) (s1 : Int32) (μ : sM) : kV pX μ (X12_readRest_J109 s0 s1 μ) := by
  unfold X12_readRest_J109
  refine kV_ck ?_
  exact kV_some (keep_wI rfl keep_r)
theorem X12_readRest_kp (a1 : Int32) (μ : sM) : kV pX μ (X12_readRest a1 μ) := by
  unfold X12_readRest
  refine kV_ck ?_
  refine kV_ite ?_ ?_
  · refine kV_bI keep_r (X12_count_kp 1 24 μ) (fun x15 μ16 h_μ16 => ?_)
    refine kV_ck ?_
    exact kV_some (keep_wI rfl h_μ16)
  · refine kV_ite ?_ ?_
    · refine kV_bI keep_r (X12_count_kp 1 99 μ) (fun x13 μ14 h_μ14 => ?_)
      refine kV_ck ?_
      exact kV_some (keep_wI rfl h_μ14)
    · refine kV_ite ?_ ?_
      · refine kV_bV keep_r (X12_readTest_kp a1 μ) (fun μ12 h_μ12 => ?_)
        exact kV_some h_μ12
      · refine kV_ite ?_ ?_
        · refine kV_bI keep_r (X12_readTold_kp 0 2 μ) (fun x5 μ6 h_μ6 => ?_)
          refine kV_ck ?_
          refine kV_bI (keep_wI rfl h_μ6) (X12_isBack_kp (wI μ6 61 0 (ix (a1 + 1)) x5)) (fun x7 μ8 h_μ8 => ?_)
          refine kV_bI h_μ8 (X12_perhaps_kp x7 μ8) (fun x9 μ10 h_μ10 => ?_)
          refine kV_ite ?_ ?_
          · exact kV_to h_μ10 (X12_readRest_J109_kp 0 (a1 + 2) μ10)
          · exact kV_to h_μ10 (X12_readRest_J109_kp 1 (a1 + 2) μ10)
        · refine kV_ite ?_ ?_
          · refine kV_bI keep_r (X12_readTold_kp 0 0 μ) (fun x1 μ2 h_μ2 => ?_)
            refine kV_ck ?_
            refine kV_bI (keep_wI rfl h_μ2) (X12_count_kp 0 99 (wI μ2 61 0 (ix (a1 + 1)) x1)) (fun x3 μ4 h_μ4 => ?_)
            refine kV_ck ?_
            exact kV_some (keep_wI rfl h_μ4)
          · exact kV_some keep_r
/-! ClockRiverModel.readStep -/
theorem X12_readStep_J192_kp {rec : Int32 → sM → Option sM} (hrec : ∀ (a1 : Int32) (μ : sM), kV pX μ (rec a1 μ)) (v4 : Int32) (μ : sM) : kV pX μ (X12_readStep_J192 rec v4 μ) := by
  unfold X12_readStep_J192
  refine kV_ck ?_
  exact kV_some (keep_wI rfl keep_r)
theorem X12_readStep_J170_kp {rec : Int32 → sM → Option sM} (hrec : ∀ (a1 : Int32) (μ : sM), kV pX μ (rec a1 μ)) (v3 : Int32) (v4 : Int32) (μ : sM) : kV pX μ (X12_readStep_J170 rec v3 v4 μ) := by
  unfold X12_readStep_J170
  refine kV_ite ?_ ?_
  · exact kV_to keep_r (X12_readStep_J192_kp hrec v4 μ)
  · refine kV_bI keep_r (X12_isEnd_kp μ) (fun x1 μ2 h_μ2 => ?_)
    refine kV_bV h_μ2 (X12_must_kp x1 μ2) (fun μ4 h_μ4 => ?_)
    refine kV_bI h_μ4 (X12_isSign_kp 59 μ4) (fun x5 μ6 h_μ6 => ?_)
    refine kV_bV h_μ6 (X12_must_kp x5 μ6) (fun μ8 h_μ8 => ?_)
    exact kV_to h_μ8 (X12_readStep_J192_kp hrec v4 μ8)
theorem X12_readStep_L142_kp {rec : Int32 → sM → Option sM} (hrec : ∀ (a1 : Int32) (μ : sM), kV pX μ (rec a1 μ)) : ∀ (n : Nat) (v1 : Int32) (v3 : Int32) (v4 : Int32) (μ : sM), kV pX μ (X12_readStep_L142 rec n v1 v3 v4 μ) := by
  intro n
  induction n with
  | zero =>
    intros
    exact kV_none
  | succ n ih =>
    intro v1 v3 v4 μ
    unfold X12_readStep_L142
    refine kV_ite ?_ ?_
    · exact kV_to keep_r (X12_readStep_J170_kp hrec v3 v4 μ)
    · refine kV_ite ?_ ?_
      · refine kV_bI keep_r (X12_isEnd_kp μ) (fun x1 μ2 h_μ2 => ?_)
        refine kV_ite ?_ ?_
        · refine kV_bV h_μ2 (hrec (v1 + 1) μ2) (fun μ4 h_μ4 => ?_)
          exact kV_to h_μ4 (ih v1 v3 v4 μ4)
        · exact kV_to h_μ2 (X12_readStep_J170_kp hrec v3 v4 μ2)
      · exact kV_to keep_r (X12_readStep_J170_kp hrec v3 v4 μ)
theorem X12_readStep_J83_kp {rec : Int32 → sM → Option sM} (hrec : ∀ (a1 : Int32) (μ : sM), kV pX μ (rec a1 μ)) (v1 : Int32) (v2 : Int32) (v3 : Int32) (μ : sM) : kV pX μ (X12_readStep_J83 rec v1 v2 v3 μ) := by
  unfold X12_readStep_J83
  refine kV_ite ?_ ?_
  · refine kV_bV (keep_wI rfl keep_r) (X12_advance_kp (wI μ 13 0 26 ((rI μ 13 0 26) + 1))) (fun μ2 h_μ2 => ?_)
    refine kV_ck ?_
    refine kV_bV (keep_wI rfl h_μ2) (X12_readRest_kp (1470 + (9 * (rI μ 13 0 26))) (wI μ2 61 0 (ix (1470 + (9 * (rI μ 13 0 26)))) v2)) (fun μ4 h_μ4 => ?_)
    refine kV_bI h_μ4 (X12_isSign_kp 59 μ4) (fun x5 μ6 h_μ6 => ?_)
    refine kV_bV h_μ6 (X12_must_kp x5 μ6) (fun μ8 h_μ8 => ?_)
    exact kV_to h_μ8 (X12_readStep_L142_kp hrec fuN v1 v3 (1470 + (9 * (rI μ 13 0 26))) μ8)
  · exact kV_some keep_r
theorem X12_readStep_J57_kp {rec : Int32 → sM → Option sM} (hrec : ∀ (a1 : Int32) (μ : sM), kV pX μ (rec a1 μ)) (v1 : Int32) (v2 : Int32) (v3 : Int32) (μ : sM) : kV pX μ (X12_readStep_J57 rec v1 v2 v3 μ) := by
  unfold X12_readStep_J57
  refine kV_ite ?_ ?_
  · refine kV_ite ?_ ?_
    · exact kV_to keep_r (X12_readStep_J83_kp hrec v1 v2 v3 μ)
    · refine kV_ite ?_ ?_
      · refine kV_bV keep_r (X12_fail_kp 7 (rI μ 13 0 15) μ) (fun μ2 h_μ2 => ?_)
        exact kV_to h_μ2 (X12_readStep_J83_kp hrec v1 v2 v3 μ2)
      · exact kV_to keep_r (X12_readStep_J83_kp hrec v1 v2 v3 μ)
  · exact kV_to keep_r (X12_readStep_J83_kp hrec v1 v2 v3 μ)
theorem X12_readStep_J31_kp {rec : Int32 → sM → Option sM} (hrec : ∀ (a1 : Int32) (μ : sM), kV pX μ (rec a1 μ)) (v1 : Int32) (v2 : Int32) (v3 : Int32) (μ : sM) : kV pX μ (X12_readStep_J31 rec v1 v2 v3 μ) := by
  unfold X12_readStep_J31
  refine kV_ite ?_ ?_
  · refine kV_ite ?_ ?_
    · refine kV_bV keep_r (X12_fail_kp 6 (rI μ 13 0 15) μ) (fun μ2 h_μ2 => ?_)
      exact kV_to h_μ2 (X12_readStep_J57_kp hrec v1 v2 v3 μ2)
    · exact kV_to keep_r (X12_readStep_J57_kp hrec v1 v2 v3 μ)
  · exact kV_to keep_r (X12_readStep_J57_kp hrec v1 v2 v3 μ)
theorem X12_readStep_J22_kp {rec : Int32 → sM → Option sM} (hrec : ∀ (a1 : Int32) (μ : sM), kV pX μ (rec a1 μ)) (v1 : Int32) (v2 : Int32) (s0 : Int32) (μ : sM) : kV pX μ (X12_readStep_J22 rec v1 v2 s0 μ) := by
  unfold X12_readStep_J22
  refine kV_ite ?_ ?_
  · exact kV_to keep_r (X12_readStep_J31_kp hrec v1 v2 s0 μ)
  · refine kV_bV keep_r (X12_amiss_kp μ) (fun μ2 h_μ2 => ?_)
    exact kV_to h_μ2 (X12_readStep_J31_kp hrec v1 v2 s0 μ2)
theorem X12_readStep_J17_kp {rec : Int32 → sM → Option sM} (hrec : ∀ (a1 : Int32) (μ : sM), kV pX μ (rec a1 μ)) (v1 : Int32) (v2 : Int32) (μ : sM) : kV pX μ (X12_readStep_J17 rec v1 v2 μ) := by
  unfold X12_readStep_J17
  exact kV_to keep_r (X12_readStep_J22_kp hrec v1 v2 1 μ)
theorem X12_readStep__kp {rec : Int32 → sM → Option sM} (hrec : ∀ (a1 : Int32) (μ : sM), kV pX μ (rec a1 μ)) (a1 : Int32) (μ : sM) : kV pX μ (X12_readStep_ rec a1 μ) := by
  unfold X12_readStep_
  refine kV_bI keep_r (X12_stepWord_kp μ) (fun x1 μ2 h_μ2 => ?_)
  refine kV_ite ?_ ?_
  · exact kV_to h_μ2 (X12_readStep_J17_kp hrec a1 x1 μ2)
  · refine kV_ite ?_ ?_
    · exact kV_to h_μ2 (X12_readStep_J17_kp hrec a1 x1 μ2)
    · exact kV_to h_μ2 (X12_readStep_J22_kp hrec a1 x1 0 μ2)
theorem X12_readStepN_kp : ∀ (n : Nat) (a1 : Int32) (μ : sM), kV pX μ (X12_readStepN n a1 μ)
  | 0, _, _ => kV_none
  | n + 1, a1, μ => X12_readStep__kp (fun a1 μ => X12_readStepN_kp n a1 μ) a1 μ
theorem X12_readStep_kp (a1 : Int32) (μ : sM) : kV pX μ (X12_readStep a1 μ) := X12_readStepN_kp _ a1 μ
/-! ClockRiverModel.weeks -/
theorem X12_weeks_L80_kp : ∀ (n : Nat) (v2 : Int32) (μ : sM), kI pX μ (X12_weeks_L80 n v2 μ) := by
  intro n
  induction n with
  | zero =>
    intros
    exact kI_none
  | succ n ih =>
    intro v2 μ
    unfold X12_weeks_L80
    refine kI_ite ?_ ?_
    · exact kI_some keep_r
    · refine kI_ck ?_
      refine kI_ck ?_
      exact kI_to (keep_wI rfl keep_r) (ih (v2 + 1) (wI μ 61 0 (ix (78 + v2)) (rI μ 61 0 (ix (1470 + v2)))))
theorem X12_weeks_J50_kp (μ : sM) : kI pX μ (X12_weeks_J50 μ) := by
  unfold X12_weeks_J50
  refine kI_bI keep_r (X12_isWell_kp μ) (fun x1 μ2 h_μ2 => ?_)
  refine kI_ite ?_ ?_
  · exact kI_some h_μ2
  · exact kI_to (keep_wI rfl (keep_wI rfl h_μ2)) (X12_weeks_L80_kp fuN 0 (wI (wI μ2 61 0 76 1) 61 0 77 (rI μ2 13 0 26)))
theorem X12_weeks_L28_kp : ∀ (n : Nat) (μ : sM), kI pX μ (X12_weeks_L28 n μ) := by
  intro n
  induction n with
  | zero =>
    intros
    exact kI_none
  | succ n ih =>
    intro μ
    unfold X12_weeks_L28
    refine kI_ite ?_ ?_
    · refine kI_ite ?_ ?_
      · exact kI_to keep_r (X12_weeks_J50_kp μ)
      · refine kI_bV keep_r (X12_readStep_kp 0 μ) (fun μ2 h_μ2 => ?_)
        exact kI_to h_μ2 (ih μ2)
    · exact kI_to keep_r (X12_weeks_J50_kp μ)
theorem X12_weeks_kp (a1 : Int32) (μ : sM) : kI pX μ (X12_weeks a1 μ) := by
  unfold X12_weeks
  refine kI_bI (keep_wI rfl (keep_wI rfl keep_r)) (X12_starts_kp a1 300 (wI (wI μ 13 0 1 0) 13 0 0 0)) (fun x1 μ2 h_μ2 => ?_)
  refine kI_ite ?_ ?_
  · exact kI_some h_μ2
  · exact kI_to (keep_wI rfl h_μ2) (X12_weeks_L28_kp fuN (wI μ2 13 0 26 0))
/-! ClockRiverModel.fault -/
theorem X12_fault_kp (a1 : Int32) (μ : sM) : kI pX μ (X12_fault a1 μ) := by
  unfold X12_fault
  refine kI_ite ?_ ?_
  · exact kI_some (keep_wI rfl keep_r)
  · refine kI_ite ?_ ?_
    · exact kI_some (keep_wI rfl keep_r)
    · exact kI_some (keep_wI rfl keep_r)
/-! ClockRiverModel.refuse -/
theorem X12_refuse_kp (a1 : Int32) (μ : sM) : kI pX μ (X12_refuse a1 μ) := by
  unfold X12_refuse
  exact kI_some (keep_wI rfl keep_r)
/-! ClockRiverModel.day -/
theorem X12_day_kp (μ : sM) : kI pX μ (X12_day μ) := by
  unfold X12_day
  exact kI_some keep_r
/-! ClockRiverModel.sumOf -/
theorem X12_sumOf_L5_kp : ∀ (n : Nat) (v1 : Int32) (v2 : Int32) (v3 : Int32) (v4 : Int32) (μ : sM), kI pX μ (X12_sumOf_L5 n v1 v2 v3 v4 μ) := by
  intro n
  induction n with
  | zero =>
    intros
    exact kI_none
  | succ n ih =>
    intro v1 v2 v3 v4 μ
    unfold X12_sumOf_L5
    refine kI_ite ?_ ?_
    · exact kI_some keep_r
    · refine kI_ck ?_
      exact kI_to keep_r (ih v1 v2 (v3 + (rI μ 61 0 (ix (v1 + v4)))) (v4 + 1) μ)
theorem X12_sumOf_kp (a1 : Int32) (a2 : Int32) (μ : sM) : kI pX μ (X12_sumOf a1 a2 μ) := by
  unfold X12_sumOf
  exact kI_to keep_r (X12_sumOf_L5_kp fuN a1 a2 0 0 μ)
/-! ClockRiverModel.allGround -/
theorem X12_allGround_kp (μ : sM) : kI pX μ (X12_allGround μ) := by
  unfold X12_allGround
  refine kI_bI keep_r (X12_sumOf_kp 46 (rI μ 61 0 1) μ) (fun x1 μ2 h_μ2 => ?_)
  exact kI_some h_μ2
/-! ClockRiverModel.many -/
theorem X12_many_kp (a1 : Int32) (μ : sM) : kI pX μ (X12_many a1 μ) := by
  unfold X12_many
  refine kI_bI (keep_wI rfl (keep_wI rfl keep_r)) (X12_isIn_kp (Int32.toInt64 a1) 0 12 (wI (wI μ 13 0 1 0) 13 0 0 0)) (fun x1 μ2 h_μ2 => ?_)
  refine kI_ite ?_ ?_
  · refine kI_bI h_μ2 (X12_refuse_kp 5 μ2) (fun x11 μ12 h_μ12 => ?_)
    exact kI_some h_μ12
  · refine kI_ite ?_ ?_
    · refine kI_ite ?_ ?_
      · refine kI_bI h_μ2 (X12_day_kp μ2) (fun x9 μ10 h_μ10 => ?_)
        exact kI_some h_μ10
      · refine kI_ite ?_ ?_
        · refine kI_ite ?_ ?_
          · refine kI_bI h_μ2 (X12_sumOf_kp 28 (rI μ2 61 0 0) μ2) (fun x7 μ8 h_μ8 => ?_)
            exact kI_some h_μ8
          · refine kI_ite ?_ ?_
            · refine kI_bI h_μ2 (X12_sumOf_kp 70 (rI μ2 61 0 2) μ2) (fun x5 μ6 h_μ6 => ?_)
              exact kI_some h_μ6
            · refine kI_bI h_μ2 (X12_allGround_kp μ2) (fun x3 μ4 h_μ4 => ?_)
              exact kI_some h_μ4
        · refine kI_ck ?_
          exact kI_some h_μ2
    · refine kI_ck ?_
      exact kI_some h_μ2
/-! ClockRiverModel.turnsLeft -/
theorem X12_turnsLeft_kp (μ : sM) : kI pX μ (X12_turnsLeft μ) := by
  unfold X12_turnsLeft
  exact kI_some (keep_wI rfl (keep_wI rfl keep_r))
/-! ClockRiverModel.water -/
theorem X12_water_kp (a1 : Int32) (μ : sM) : kL pX μ (X12_water a1 μ) := by
  unfold X12_water
  refine kL_bI (keep_wI rfl (keep_wI rfl keep_r)) (X12_isIn_kp (Int32.toInt64 a1) 0 5 (wI (wI μ 13 0 1 0) 13 0 0 0)) (fun x1 μ2 h_μ2 => ?_)
  refine kL_ite ?_ ?_
  · refine kL_bI h_μ2 (X12_refuse_kp 5 μ2) (fun x3 μ4 h_μ4 => ?_)
    exact kL_some h_μ4
  · refine kL_ck ?_
    exact kL_some h_μ2
/-! ClockRiverModel.isReachAt -/
theorem X12_isReachAt_kp (a1 : Int32) (μ : sM) : kI pX μ (X12_isReachAt a1 μ) := by
  unfold X12_isReachAt
  refine kI_bI keep_r (X12_isIn_kp (Int32.toInt64 a1) 0 (Int32.toInt64 ((rI μ 61 0 0) - 1)) μ) (fun x1 μ2 h_μ2 => ?_)
  refine kI_ck ?_
  exact kI_some h_μ2
/-! ClockRiverModel.passOf -/
theorem X12_passOf_kp (a1 : Int32) (μ : sM) : kI pX μ (X12_passOf a1 μ) := by
  unfold X12_passOf
  refine kI_ck ?_
  refine kI_ck ?_
  exact kI_some keep_r
/-! ClockRiverModel.millsAt -/
theorem X12_millsAt_J33_kp {k4 : Int32 → Int32 → Int32 → sM → Option (Int32 × sM)} (hk4 : ∀ (v1 : Int32) (v2 : Int32) (v3 : Int32) (μ : sM), kI pX μ (k4 v1 v2 v3 μ)) (v1 : Int32) (v3 : Int32) (s0 : Int32) (s1 : Int32) (μ : sM) : kI pX μ (X12_millsAt_J33 k4 v1 v3 s0 s1 μ) := by
  unfold X12_millsAt_J33
  exact kI_to keep_r (hk4 v1 (s1 + s0) (v3 + 1) μ)
theorem X12_millsAt_L4_kp : ∀ (n : Nat) (v1 : Int32) (v2 : Int32) (v3 : Int32) (μ : sM), kI pX μ (X12_millsAt_L4 n v1 v2 v3 μ) := by
  intro n
  induction n with
  | zero =>
    intros
    exact kI_none
  | succ n ih =>
    intro v1 v2 v3 μ
    unfold X12_millsAt_L4
    refine kI_ite ?_ ?_
    · exact kI_some keep_r
    · refine kI_ck ?_
      refine kI_ite ?_ ?_
      · exact kI_to keep_r (X12_millsAt_J33_kp ih v1 v3 1 v2 μ)
      · exact kI_to keep_r (X12_millsAt_J33_kp ih v1 v3 0 v2 μ)
theorem X12_millsAt_kp (a1 : Int32) (μ : sM) : kI pX μ (X12_millsAt a1 μ) := by
  unfold X12_millsAt
  exact kI_to keep_r (X12_millsAt_L4_kp fuN a1 0 0 μ)
