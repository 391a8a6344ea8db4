/-! ClockRiver$Ahead.spare -/
theorem X0_spare_kp (μ : sM) : kA pM μ (X0_spare μ) := by
  unfold X0_spare
  exact kA_some keep_r
/-! ClockRiver$Ahead.copyOf -/
theorem X0_copyOf_kp (a1 : Nat) (μ : sM) : kA pM μ (X0_copyOf a1 μ) := by
  unfold X0_copyOf
  refine kA_bV keep_r (X4_copyFrom_kp 4 a1 μ) (fun μ2 h_μ2 => ?_)
  exact kA_some h_μ2
/-! ClockRiver$Ahead.later -/
theorem X0_later_kp (a1 : Nat) (a2 : Int32) (μ : sM) : kA pM μ (X0_later a1 a2 μ) := by
  unfold X0_later
  refine kA_bA keep_r (X0_copyOf_kp a1 μ) (fun x1 μ2 h_μ2 => ?_)
  refine kA_bI h_μ2 (X4_passHours_kp x1 a2 μ2) (fun x3 μ4 h_μ4 => ?_)
  exact kA_some h_μ4
/-! ClockRiver$Ahead.hoursTillDry -/
theorem X0_hoursTillDry_L9_kp : ∀ (n : Nat) (v2 : Int32) (v3 : Nat) (v4 : Int32) (μ : sM), kI pM μ (X0_hoursTillDry_L9 n v2 v3 v4 μ) := by
  intro n
  induction n with
  | zero =>
    intros
    exact kI_none
  | succ n ih =>
    intro v2 v3 v4 μ
    unfold X0_hoursTillDry_L9
    refine kI_ite ?_ ?_
    · exact kI_some keep_r
    · refine kI_ck ?_
      refine kI_ite ?_ ?_
      · exact kI_some keep_r
      · refine kI_bI keep_r (X4_passHour_kp v3 μ) (fun x1 μ2 h_μ2 => ?_)
        exact kI_to h_μ2 (ih v2 v3 (v4 + 1) μ2)
theorem X0_hoursTillDry_kp (a1 : Nat) (a2 : Int32) (μ : sM) : kI pM μ (X0_hoursTillDry a1 a2 μ) := by
  unfold X0_hoursTillDry
  refine kI_bA keep_r (X0_copyOf_kp a1 μ) (fun x1 μ2 h_μ2 => ?_)
  exact kI_to h_μ2 (X0_hoursTillDry_L9_kp fuN a2 x1 0 μ2)
/-! ClockRiver$Ahead.hoursTillFlood -/
theorem X0_hoursTillFlood_L9_kp : ∀ (n : Nat) (v2 : Int32) (v3 : Nat) (v4 : Int32) (μ : sM), kI pM μ (X0_hoursTillFlood_L9 n v2 v3 v4 μ) := by
  intro n
  induction n with
  | zero =>
    intros
    exact kI_none
  | succ n ih =>
    intro v2 v3 v4 μ
    unfold X0_hoursTillFlood_L9
    refine kI_ite ?_ ?_
    · exact kI_some keep_r
    · refine kI_bI keep_r (X4_passHour_kp v3 μ) (fun x1 μ2 h_μ2 => ?_)
      refine kI_ck ?_
      refine kI_ite ?_ ?_
      · exact kI_to h_μ2 (ih v2 v3 (v4 + 1) μ2)
      · exact kI_some h_μ2
theorem X0_hoursTillFlood_kp (a1 : Nat) (a2 : Int32) (μ : sM) : kI pM μ (X0_hoursTillFlood a1 a2 μ) := by
  unfold X0_hoursTillFlood
  refine kI_bA keep_r (X0_copyOf_kp a1 μ) (fun x1 μ2 h_μ2 => ?_)
  exact kI_to h_μ2 (X0_hoursTillFlood_L9_kp fuN a2 x1 0 μ2)
/-! ClockRiver$Ahead.hoursTillStill -/
theorem X0_hoursTillStill_L8_kp : ∀ (n : Nat) (v2 : Nat) (v3 : Int32) (μ : sM), kI pM μ (X0_hoursTillStill_L8 n v2 v3 μ) := by
  intro n
  induction n with
  | zero =>
    intros
    exact kI_none
  | succ n ih =>
    intro v2 v3 μ
    unfold X0_hoursTillStill_L8
    refine kI_ite ?_ ?_
    · exact kI_some keep_r
    · refine kI_ite ?_ ?_
      · exact kI_some keep_r
      · refine kI_bI keep_r (X4_passHour_kp v2 μ) (fun x1 μ2 h_μ2 => ?_)
        exact kI_to h_μ2 (ih v2 (v3 + 1) μ2)
theorem X0_hoursTillStill_kp (a1 : Nat) (μ : sM) : kI pM μ (X0_hoursTillStill a1 μ) := by
  unfold X0_hoursTillStill
  refine kI_bA keep_r (X0_copyOf_kp a1 μ) (fun x1 μ2 h_μ2 => ?_)
  exact kI_to h_μ2 (X0_hoursTillStill_L8_kp fuN x1 0 μ2)
/-! ClockRiver$Ahead.leastTurns -/
theorem X0_leastTurns_L3_kp : ∀ (n : Nat) (v1 : Nat) (v2 : Int32) (v3 : Int32) (v4 : Int32) (v5 : Int32) (μ : sM), kI pM μ (X0_leastTurns_L3 n v1 v2 v3 v4 v5 μ) := by
  intro n
  induction n with
  | zero =>
    intros
    exact kI_none
  | succ n ih =>
    intro v1 v2 v3 v4 v5 μ
    unfold X0_leastTurns_L3
    refine kI_ite ?_ ?_
    · exact kI_some keep_r
    · refine kI_bA keep_r (X0_copyOf_kp v1 μ) (fun x1 μ2 h_μ2 => ?_)
      refine kI_bI (keep_wI rfl h_μ2) (X4_passHours_kp x1 v3 (wI μ2 5 x1 0 v5)) (fun x3 μ4 h_μ4 => ?_)
      refine kI_ck ?_
      refine kI_ck ?_
      refine kI_ite ?_ ?_
      · exact kI_to h_μ4 (ih v1 v2 v3 v4 (v5 + 1) μ4)
      · exact kI_some h_μ4
theorem X0_leastTurns_kp (a1 : Nat) (a2 : Int32) (a3 : Int32) (a4 : Int32) (μ : sM) : kI pM μ (X0_leastTurns a1 a2 a3 a4 μ) := by
  unfold X0_leastTurns
  exact kI_to keep_r (X0_leastTurns_L3_kp fuN a1 a2 a3 a4 0 μ)
/-! ClockRiver$Ahead.findGate -/
theorem X0_findGate_J63_kp {k8 : Nat → Int32 → Int32 → Int32 → sM → Option sM} (hk8 : ∀ (v1 : Nat) (v2 : Int32) (v3 : Int32) (v4 : Int32) (μ : sM), kV pM μ (k8 v1 v2 v3 v4 μ)) (v1 : Nat) (v2 : Int32) (v3 : Int32) (v4 : Int32) (μ : sM) : kV pM μ (X0_findGate_J63 k8 v1 v2 v3 v4 μ) := by
  unfold X0_findGate_J63
  exact kV_to keep_r (hk8 v1 v2 v3 (v4 + 1) μ)
theorem X0_findGate_L8_kp : ∀ (n : Nat) (v1 : Nat) (v2 : Int32) (v3 : Int32) (v4 : Int32) (μ : sM), kV pM μ (X0_findGate_L8 n v1 v2 v3 v4 μ) := by
  intro n
  induction n with
  | zero =>
    intros
    exact kV_none
  | succ n ih =>
    intro v1 v2 v3 v4 μ
    unfold X0_findGate_L8
    refine kV_ite ?_ ?_
    · exact kV_some keep_r
    · refine kV_bA keep_r (X0_copyOf_kp v1 μ) (fun x1 μ2 h_μ2 => ?_)
      refine kV_ck ?_
      refine kV_bI (keep_wI rfl h_μ2) (X4_passHours_kp x1 v3 (wI μ2 30 x1 (ix v2) v4)) (fun x3 μ4 h_μ4 => ?_)
      refine kV_ite ?_ ?_
      · exact kV_to h_μ4 (X0_findGate_J63_kp ih v1 v2 v3 v4 μ4)
      · exact kV_to (keep_wI rfl (keep_wI rfl h_μ4)) (X0_findGate_J63_kp ih v1 v2 v3 v4 (wI (wI μ4 1 0 2 x3) 1 0 1 v4))
theorem X0_findGate_kp (a1 : Nat) (a2 : Int32) (a3 : Int32) (μ : sM) : kV pM μ (X0_findGate a1 a2 a3 μ) := by
  unfold X0_findGate
  exact kV_to (keep_wI rfl keep_r) (X0_findGate_L8_kp fuN a1 a2 a3 0 (wI μ 1 0 2 (-1)))
/-! ClockRiver$Ahead.tryHands -/
theorem X0_tryHands_J203_kp {rec : Int32 → Int32 → Int32 → sM → Option sM} (hrec : ∀ (a1 : Int32) (a2 : Int32) (a3 : Int32) (μ : sM), kV pM μ (rec a1 a2 a3 μ)) {k105 : Int32 → Int32 → Int32 → Nat → Int32 → sM → Option sM} (hk105 : ∀ (v1 : Int32) (v2 : Int32) (v3 : Int32) (v5 : Nat) (v6 : Int32) (μ : sM), kV pM μ (k105 v1 v2 v3 v5 v6 μ)) (v1 : Int32) (v2 : Int32) (v3 : Int32) (v5 : Nat) (v6 : Int32) (v8 : Nat) (s0 : Int32) (μ : sM) : kV pM μ (X0_tryHands_J203 rec k105 v1 v2 v3 v5 v6 v8 s0 μ) := by
  unfold X0_tryHands_J203
  refine kV_bI keep_r (X4_passHours_kp v8 4 μ) (fun x1 μ2 h_μ2 => ?_)
  refine kV_bV h_μ2 (hrec (v1 + 1) s0 (v3 + x1) μ2) (fun μ4 h_μ4 => ?_)
  exact kV_to h_μ4 (hk105 v1 v2 v3 v5 (v6 + 1) μ4)
theorem X0_tryHands_J183_kp {rec : Int32 → Int32 → Int32 → sM → Option sM} (hrec : ∀ (a1 : Int32) (a2 : Int32) (a3 : Int32) (μ : sM), kV pM μ (rec a1 a2 a3 μ)) {k105 : Int32 → Int32 → Int32 → Nat → Int32 → sM → Option sM} (hk105 : ∀ (v1 : Int32) (v2 : Int32) (v3 : Int32) (v5 : Nat) (v6 : Int32) (μ : sM), kV pM μ (k105 v1 v2 v3 v5 v6 μ)) (v1 : Int32) (v2 : Int32) (v3 : Int32) (v5 : Nat) (v6 : Int32) (v7 : Int32) (v8 : Nat) (s0 : Int32) (s1 : Int32) (μ : sM) : kV pM μ (X0_tryHands_J183 rec k105 v1 v2 v3 v5 v6 v7 v8 s0 s1 μ) := by
  unfold X0_tryHands_J183
  refine kV_ck ?_
  refine kV_ite ?_ ?_
  · exact kV_to (keep_wI rfl keep_r) (X0_tryHands_J203_kp hrec hk105 v1 v2 v3 v5 v6 v8 v2 (wI μ 22 0 (ix s1) s0))
  · refine kV_ck ?_
    exact kV_to (keep_wI rfl keep_r) (X0_tryHands_J203_kp hrec hk105 v1 v2 v3 v5 v6 v8 (v2 + (rI μ 52 v5 (ix v6))) (wI μ 22 0 (ix s1) s0))
theorem X0_tryHands_J166_kp {rec : Int32 → Int32 → Int32 → sM → Option sM} (hrec : ∀ (a1 : Int32) (a2 : Int32) (a3 : Int32) (μ : sM), kV pM μ (rec a1 a2 a3 μ)) {k105 : Int32 → Int32 → Int32 → Nat → Int32 → sM → Option sM} (hk105 : ∀ (v1 : Int32) (v2 : Int32) (v3 : Int32) (v5 : Nat) (v6 : Int32) (μ : sM), kV pM μ (k105 v1 v2 v3 v5 v6 μ)) (v1 : Int32) (v2 : Int32) (v3 : Int32) (v5 : Nat) (v6 : Int32) (v7 : Int32) (v8 : Nat) (μ : sM) : kV pM μ (X0_tryHands_J166 rec k105 v1 v2 v3 v5 v6 v7 v8 μ) := by
  unfold X0_tryHands_J166
  refine kV_ite ?_ ?_
  · exact kV_to keep_r (X0_tryHands_J183_kp hrec hk105 v1 v2 v3 v5 v6 v7 v8 6 v1 μ)
  · exact kV_to keep_r (X0_tryHands_J183_kp hrec hk105 v1 v2 v3 v5 v6 v7 v8 v6 v1 μ)
theorem X0_tryHands_J130_kp {rec : Int32 → Int32 → Int32 → sM → Option sM} (hrec : ∀ (a1 : Int32) (a2 : Int32) (a3 : Int32) (μ : sM), kV pM μ (rec a1 a2 a3 μ)) {k105 : Int32 → Int32 → Int32 → Nat → Int32 → sM → Option sM} (hk105 : ∀ (v1 : Int32) (v2 : Int32) (v3 : Int32) (v5 : Nat) (v6 : Int32) (μ : sM), kV pM μ (k105 v1 v2 v3 v5 v6 μ)) (v1 : Int32) (v2 : Int32) (v3 : Int32) (v5 : Nat) (v6 : Int32) (s0 : Int32) (μ : sM) : kV pM μ (X0_tryHands_J130 rec k105 v1 v2 v3 v5 v6 s0 μ) := by
  unfold X0_tryHands_J130
  refine kV_ck ?_
  refine kV_ck ?_
  refine kV_bV keep_r (X4_copyFrom_kp (4 + (ix (v1 + 1))) (4 + (ix v1)) μ) (fun μ2 h_μ2 => ?_)
  refine kV_ite ?_ ?_
  · exact kV_to h_μ2 (X0_tryHands_J166_kp hrec hk105 v1 v2 v3 v5 v6 s0 (4 + (ix (v1 + 1))) μ2)
  · refine kV_bV h_μ2 (X4_letWind_kp (4 + (ix (v1 + 1))) v6 0 μ2) (fun μ4 h_μ4 => ?_)
    exact kV_to h_μ4 (X0_tryHands_J166_kp hrec hk105 v1 v2 v3 v5 v6 s0 (4 + (ix (v1 + 1))) μ4)
theorem X0_tryHands_L105_kp {rec : Int32 → Int32 → Int32 → sM → Option sM} (hrec : ∀ (a1 : Int32) (a2 : Int32) (a3 : Int32) (μ : sM), kV pM μ (rec a1 a2 a3 μ)) : ∀ (n : Nat) (v1 : Int32) (v2 : Int32) (v3 : Int32) (v5 : Nat) (v6 : Int32) (μ : sM), kV pM μ (X0_tryHands_L105 rec n v1 v2 v3 v5 v6 μ) := by
  intro n
  induction n with
  | zero =>
    intros
    exact kV_none
  | succ n ih =>
    intro v1 v2 v3 v5 v6 μ
    unfold X0_tryHands_L105
    refine kV_ite ?_ ?_
    · exact kV_some keep_r
    · refine kV_ite ?_ ?_
      · exact kV_to keep_r (X0_tryHands_J130_kp hrec ih v1 v2 v3 v5 v6 0 μ)
      · exact kV_to keep_r (X0_tryHands_J130_kp hrec ih v1 v2 v3 v5 v6 1 μ)
theorem X0_tryHands_J17_kp {rec : Int32 → Int32 → Int32 → sM → Option sM} (hrec : ∀ (a1 : Int32) (a2 : Int32) (a3 : Int32) (μ : sM), kV pM μ (rec a1 a2 a3 μ)) (v1 : Int32) (v2 : Int32) (v3 : Int32) (μ : sM) : kV pM μ (X0_tryHands_J17 rec v1 v2 v3 μ) := by
  unfold X0_tryHands_J17
  refine kV_ite ?_ ?_
  · refine kV_ck ?_
    refine kV_ite ?_ ?_
    · refine kV_ck ?_
      exact kV_to keep_r (X0_tryHands_L105_kp hrec fuN v1 v2 v3 (4 + (ix v1)) 0 μ)
    · exact kV_some keep_r
  · refine kV_ite ?_ ?_
    · exact kV_some keep_r
    · refine kV_ck ?_
      exact kV_some (keep_cI rfl (keep_wI rfl keep_r))
theorem X0_tryHands__kp {rec : Int32 → Int32 → Int32 → sM → Option sM} (hrec : ∀ (a1 : Int32) (a2 : Int32) (a3 : Int32) (μ : sM), kV pM μ (rec a1 a2 a3 μ)) (a1 : Int32) (a2 : Int32) (a3 : Int32) (μ : sM) : kV pM μ (X0_tryHands_ rec a1 a2 a3 μ) := by
  unfold X0_tryHands_
  refine kV_ite ?_ ?_
  · exact kV_to keep_r (X0_tryHands_J17_kp hrec a1 a2 a3 μ)
  · refine kV_ite ?_ ?_
    · exact kV_to keep_r (X0_tryHands_J17_kp hrec a1 a2 a3 μ)
    · exact kV_some keep_r
theorem X0_tryHandsN_kp : ∀ (n : Nat) (a1 : Int32) (a2 : Int32) (a3 : Int32) (μ : sM), kV pM μ (X0_tryHandsN n a1 a2 a3 μ)
  | 0, _, _, _, _ => kV_none
  | n + 1, a1, a2, a3, μ => X0_tryHands__kp (fun a1 a2 a3 μ => X0_tryHandsN_kp n a1 a2 a3 μ) a1 a2 a3 μ
theorem X0_tryHands_kp (a1 : Int32) (a2 : Int32) (a3 : Int32) (μ : sM) : kV pM μ (X0_tryHands a1 a2 a3 μ) := X0_tryHandsN_kp _ a1 a2 a3 μ
/-! ClockRiver$Ahead.hireFor -/
theorem X0_hireFor_kp (a1 : Nat) (a2 : Int32) (a3 : Int32) (μ : sM) : kI pM μ (X0_hireFor a1 a2 a3 μ) := by
  unfold X0_hireFor
  refine kI_bA (keep_wI rfl (keep_wI rfl (keep_wI rfl keep_r))) (X0_copyOf_kp a1 (wI (wI (wI μ 1 0 6 (imn a2 4)) 1 0 7 a3) 1 0 8 (-1))) (fun x1 μ2 h_μ2 => ?_)
  refine kI_bV h_μ2 (X0_tryHands_kp 0 0 0 μ2) (fun μ4 h_μ4 => ?_)
  exact kI_some h_μ4
/-! ClockRiver$Ahead.leadOf -/
theorem X0_leadOf_kp (a1 : Nat) (μ : sM) : kI pM μ (X0_leadOf a1 μ) := by
  unfold X0_leadOf
  refine kI_ck ?_
  refine kI_ck ?_
  exact kI_some keep_r
/-! ClockRiver$Ahead.moveGate -/
theorem X0_moveGate_kp (a0 : Nat) (a1 : Int32) (a2 : Int32) (μ : sM) : kV pM μ (X0_moveGate a0 a1 a2 μ) := by
  unfold X0_moveGate
  refine kV_ck ?_
  refine kV_ite ?_ ?_
  · refine kV_ck ?_
    exact kV_some (keep_wI rfl keep_r)
  · refine kV_ite ?_ ?_
    · refine kV_ck ?_
      exact kV_some (keep_wI rfl keep_r)
    · exact kV_some keep_r
/-! ClockRiver$Ahead.play -/
theorem X0_play_J137_kp {rec : Int32 → sM → Option (Int32 × sM)} (hrec : ∀ (a1 : Int32) (μ : sM), kI pM μ (rec a1 μ)) {k36 : Int32 → Int32 → Int32 → Int32 → sM → Option (Int32 × sM)} (hk36 : ∀ (v1 : Int32) (v2 : Int32) (v3 : Int32) (v4 : Int32) (μ : sM), kI pM μ (k36 v1 v2 v3 v4 μ)) (v1 : Int32) (v2 : Int32) (v3 : Int32) (v4 : Int32) (μ : sM) : kI pM μ (X0_play_J137 rec k36 v1 v2 v3 v4 μ) := by
  unfold X0_play_J137
  exact kI_to keep_r (hk36 v1 v2 v3 (v4 + 1) μ)
theorem X0_play_J124_kp {rec : Int32 → sM → Option (Int32 × sM)} (hrec : ∀ (a1 : Int32) (μ : sM), kI pM μ (rec a1 μ)) {k36 : Int32 → Int32 → Int32 → Int32 → sM → Option (Int32 × sM)} (hk36 : ∀ (v1 : Int32) (v2 : Int32) (v3 : Int32) (v4 : Int32) (μ : sM), kI pM μ (k36 v1 v2 v3 v4 μ)) (v1 : Int32) (v2 : Int32) (v4 : Int32) (v6 : Int32) (μ : sM) : kI pM μ (X0_play_J124 rec k36 v1 v2 v4 v6 μ) := by
  unfold X0_play_J124
  refine kI_ite ?_ ?_
  · exact kI_to (keep_wI rfl keep_r) (X0_play_J137_kp hrec hk36 v1 v2 v6 v4 (wI μ 1 0 3 v4))
  · exact kI_to keep_r (X0_play_J137_kp hrec hk36 v1 v2 v6 v4 μ)
theorem X0_play_J80_kp {rec : Int32 → sM → Option (Int32 × sM)} (hrec : ∀ (a1 : Int32) (μ : sM), kI pM μ (rec a1 μ)) {k36 : Int32 → Int32 → Int32 → Int32 → sM → Option (Int32 × sM)} (hk36 : ∀ (v1 : Int32) (v2 : Int32) (v3 : Int32) (v4 : Int32) (μ : sM), kI pM μ (k36 v1 v2 v3 v4 μ)) (v1 : Int32) (v2 : Int32) (v3 : Int32) (v4 : Int32) (v5 : Nat) (s0 : Int32) (s1 : Nat) (μ : sM) : kI pM μ (X0_play_J80 rec k36 v1 v2 v3 v4 v5 s0 s1 μ) := by
  unfold X0_play_J80
  refine kI_bV keep_r (X0_moveGate_kp s1 s0 v4 μ) (fun μ2 h_μ2 => ?_)
  refine kI_bI h_μ2 (X4_passHour_kp v5 μ2) (fun x3 μ4 h_μ4 => ?_)
  refine kI_bI h_μ4 (hrec (v1 + 1) μ4) (fun x5 μ6 h_μ6 => ?_)
  refine kI_ite ?_ ?_
  · exact kI_to h_μ6 (X0_play_J124_kp hrec hk36 v1 v2 v4 x5 μ6)
  · refine kI_ite ?_ ?_
    · refine kI_ite ?_ ?_
      · exact kI_to h_μ6 (X0_play_J137_kp hrec hk36 v1 v2 v3 v4 μ6)
      · exact kI_to h_μ6 (X0_play_J124_kp hrec hk36 v1 v2 v4 x5 μ6)
    · refine kI_ite ?_ ?_
      · exact kI_to h_μ6 (X0_play_J137_kp hrec hk36 v1 v2 v3 v4 μ6)
      · exact kI_to h_μ6 (X0_play_J124_kp hrec hk36 v1 v2 v4 x5 μ6)
theorem X0_play_L36_kp {rec : Int32 → sM → Option (Int32 × sM)} (hrec : ∀ (a1 : Int32) (μ : sM), kI pM μ (rec a1 μ)) : ∀ (n : Nat) (v1 : Int32) (v2 : Int32) (v3 : Int32) (v4 : Int32) (μ : sM), kI pM μ (X0_play_L36 rec n v1 v2 v3 v4 μ) := by
  intro n
  induction n with
  | zero =>
    intros
    exact kI_none
  | succ n ih =>
    intro v1 v2 v3 v4 μ
    unfold X0_play_L36
    refine kI_ite ?_ ?_
    · exact kI_some keep_r
    · refine kI_ck ?_
      refine kI_ck ?_
      refine kI_bV keep_r (X4_copyFrom_kp (4 + (ix (v1 + 1))) (4 + (ix v1)) μ) (fun μ2 h_μ2 => ?_)
      refine kI_ite ?_ ?_
      · exact kI_to h_μ2 (X0_play_J80_kp hrec ih v1 v2 v3 v4 (4 + (ix (v1 + 1))) (rI μ2 1 0 10) (4 + (ix (v1 + 1))) μ2)
      · exact kI_to h_μ2 (X0_play_J80_kp hrec ih v1 v2 v3 v4 (4 + (ix (v1 + 1))) (rI μ2 1 0 9) (4 + (ix (v1 + 1))) μ2)
theorem X0_play_J30_kp {rec : Int32 → sM → Option (Int32 × sM)} (hrec : ∀ (a1 : Int32) (μ : sM), kI pM μ (rec a1 μ)) (v1 : Int32) (s0 : Int32) (μ : sM) : kI pM μ (X0_play_J30 rec v1 s0 μ) := by
  unfold X0_play_J30
  exact kI_to keep_r (X0_play_L36_kp hrec fuN v1 s0 0 0 μ)
theorem X0_play__kp {rec : Int32 → sM → Option (Int32 × sM)} (hrec : ∀ (a1 : Int32) (μ : sM), kI pM μ (rec a1 μ)) (a1 : Int32) (μ : sM) : kI pM μ (X0_play_ rec a1 μ) := by
  unfold X0_play_
  refine kI_ite ?_ ?_
  · refine kI_ite ?_ ?_
    · exact kI_to keep_r (X0_play_J30_kp hrec a1 1 μ)
    · exact kI_to keep_r (X0_play_J30_kp hrec a1 0 μ)
  · refine kI_ck ?_
    refine kI_bI keep_r (X0_leadOf_kp (4 + (ix a1)) μ) (fun x1 μ2 h_μ2 => ?_)
    exact kI_some h_μ2
theorem X0_playN_kp : ∀ (n : Nat) (a1 : Int32) (μ : sM), kI pM μ (X0_playN n a1 μ)
  | 0, _, _ => kI_none
  | n + 1, a1, μ => X0_play__kp (fun a1 μ => X0_playN_kp n a1 μ) a1 μ
theorem X0_play_kp (a1 : Int32) (μ : sM) : kI pM μ (X0_play a1 μ) := X0_playN_kp _ a1 μ
/-! ClockRiver$Ahead.bestLead -/
theorem X0_bestLead_kp (a1 : Nat) (a2 : Int32) (a3 : Int32) (a4 : Int32) (μ : sM) : kI pM μ (X0_bestLead a1 a2 a3 a4 μ) := by
  unfold X0_bestLead
  refine kI_bA (keep_wI rfl (keep_wI rfl (keep_wI rfl (keep_wI rfl keep_r)))) (X0_copyOf_kp a1 (wI (wI (wI (wI μ 1 0 9 a2) 1 0 10 a3) 1 0 11 (imn a4 4)) 1 0 3 (-1))) (fun x1 μ2 h_μ2 => ?_)
  refine kI_bI h_μ2 (X0_play_kp 0 μ2) (fun x3 μ4 h_μ4 => ?_)
  refine kI_bI h_μ4 (X0_leadOf_kp a1 μ4) (fun x5 μ6 h_μ6 => ?_)
  exact kI_some h_μ6
/-! ClockRiver$Life.rowBehindEnd -/
theorem X1_rowBehindEnd_kp (a0 : Nat) (a1 : Int32) (μ : sM) : kI pM μ (X1_rowBehindEnd a0 a1 μ) := by
  unfold X1_rowBehindEnd
  refine kI_ck ?_
  refine kI_ck ?_
  refine kI_ck ?_
  refine kI_ck ?_
  refine kI_ite ?_ ?_
  · refine kI_ck ?_
    refine kI_ck ?_
    refine kI_ck ?_
    refine kI_ite ?_ ?_
    · exact kI_some (keep_wI rfl keep_r)
    · exact kI_some (keep_wI rfl keep_r)
  · exact kI_some keep_r
/-! ClockRiver$Life.waits -/
theorem X1_waits_kp (a0 : Nat) (a1 : Int32) (μ : sM) : kI pM μ (X1_waits a0 a1 μ) := by
  unfold X1_waits
  refine kI_cn ?_
  refine kI_bI keep_r (X4_hasHours_kp ((rR μ 2 a0 8) - 1) a1 μ) (fun x2 μ3 h_μ3 => ?_)
  refine kI_ite ?_ ?_
  · exact kI_some h_μ3
  · refine kI_cn ?_
    refine kI_bI h_μ3 (X4_passHours_kp ((rR μ3 2 a0 8) - 1) a1 μ3) (fun x5 μ6 h_μ6 => ?_)
    exact kI_some (keep_wI rfl (keep_wI rfl h_μ6))
/-! ClockRiver$Life.winds -/
theorem X1_winds_kp (a0 : Nat) (a1 : Int32) (a2 : Int32) (μ : sM) : kI pM μ (X1_winds a0 a1 a2 μ) := by
  unfold X1_winds
  refine kI_cn ?_
  refine kI_bI keep_r (X4_isLawDay_kp ((rR μ 2 a0 8) - 1) μ) (fun x2 μ3 h_μ3 => ?_)
  refine kI_ite ?_ ?_
  · refine kI_cn ?_
    refine kI_bV h_μ3 (X4_letWind_kp ((rR μ3 2 a0 8) - 1) a1 a2 μ3) (fun μ6 h_μ6 => ?_)
    exact kI_some (keep_wI rfl h_μ6)
  · exact kI_some h_μ3
/-! ClockRiver$Life.sets -/
theorem X1_sets_kp (a0 : Nat) (a1 : Int32) (a2 : Int32) (μ : sM) : kI pM μ (X1_sets a0 a1 a2 μ) := by
  unfold X1_sets
  refine kI_cn ?_
  refine kI_ck ?_
  refine kI_ite ?_ ?_
  · exact kI_some keep_r
  · refine kI_cn ?_
    refine kI_ck ?_
    exact kI_some (keep_wI rfl keep_r)
/-! ClockRiver$Life.turnsTo -/
theorem X1_turnsTo_kp (a0 : Nat) (a1 : Int32) (μ : sM) : kI pM μ (X1_turnsTo a0 a1 μ) := by
  unfold X1_turnsTo
  refine kI_cn ?_
  refine kI_ite ?_ ?_
  · exact kI_some keep_r
  · refine kI_cn ?_
    refine kI_ck ?_
    exact kI_some (keep_wI rfl keep_r)
/-! ClockRiver$Life.drawBy -/
theorem X1_drawBy_kp (a0 : Nat) (a1 : Int32) (μ : sM) : kI pM μ (X1_drawBy a0 a1 μ) := by
  unfold X1_drawBy
  refine kI_ite ?_ ?_
  · exact kI_some (keep_wI rfl keep_r)
  · refine kI_cn ?_
    exact kI_some (keep_wI rfl keep_r)
/-! ClockRiver$Life.doesAny -/
theorem X1_doesAny_J42_kp (v0 : Nat) (v1 : Int32) (s0 : Int32) (s1 : Nat) (μ : sM) : kI pM μ (X1_doesAny_J42 v0 v1 s0 s1 μ) := by
  unfold X1_doesAny_J42
  refine kI_ck ?_
  refine kI_bI (keep_wI rfl keep_r) (X1_drawBy_kp v0 v1 (wI μ 5 s1 6 s0)) (fun x1 μ2 h_μ2 => ?_)
  refine kI_bI h_μ2 (X1_winds_kp v0 x1 0 μ2) (fun x3 μ4 h_μ4 => ?_)
  refine kI_ck ?_
  exact kI_some h_μ4
theorem X1_doesAny_kp (a0 : Nat) (μ : sM) : kI pM μ (X1_doesAny a0 μ) := by
  unfold X1_doesAny
  refine kI_cn ?_
  refine kI_ite ?_ ?_
  · refine kI_cn ?_
    refine kI_bI keep_r (X1_drawBy_kp a0 16 μ) (fun x3 μ4 h_μ4 => ?_)
    refine kI_cn ?_
    refine kI_ite ?_ ?_
    · exact kI_to h_μ4 (X1_doesAny_J42_kp a0 (rI μ 11 ((rR μ 2 a0 8) - 1) 0) 0 ((rR μ 2 a0 8) - 1) μ4)
    · exact kI_to h_μ4 (X1_doesAny_J42_kp a0 (rI μ 11 ((rR μ 2 a0 8) - 1) 0) 1 ((rR μ 2 a0 8) - 1) μ4)
  · exact kI_some keep_r
/-! ClockRiver$Life.isDone -/
theorem X1_isDone_J138_kp (s0 : Int32) (s1 : Int32) (s2 : Nat) (μ : sM) : kI pM μ (X1_isDone_J138 s0 s1 s2 μ) := by
  unfold X1_isDone_J138
  refine kI_bI keep_r (X1_winds_kp s2 s1 s0 μ) (fun x1 μ2 h_μ2 => ?_)
  refine kI_ck ?_
  exact kI_some h_μ2
theorem X1_isDone_kp (a0 : Nat) (a1 : Int32) (μ : sM) : kI pM μ (X1_isDone a0 a1 μ) := by
  unfold X1_isDone
  refine kI_ck ?_
  refine kI_ck ?_
  refine kI_ite ?_ ?_
  · refine kI_bI keep_r (X1_turnsTo_kp a0 1 μ) (fun x2 μ3 h_μ3 => ?_)
    refine kI_ck ?_
    exact kI_some h_μ3
  refine kI_ite ?_ ?_
  · refine kI_ck ?_
    refine kI_ck ?_
    refine kI_ck ?_
    refine kI_ck ?_
    refine kI_bI keep_r (X1_sets_kp a0 (rI μ 44 0 (ix a1)) (rI μ 45 0 (ix a1)) μ) (fun x6 μ7 h_μ7 => ?_)
    refine kI_ck ?_
    exact kI_some h_μ7
  refine kI_ite ?_ ?_
  · refine kI_ck ?_
    refine kI_ck ?_
    refine kI_bI keep_r (X1_waits_kp a0 (rI μ 45 0 (ix a1)) μ) (fun x9 μ10 h_μ10 => ?_)
    refine kI_ck ?_
    exact kI_some h_μ10
  refine kI_ite ?_ ?_
  · refine kI_ck ?_
    refine kI_ck ?_
    refine kI_ck ?_
    refine kI_ck ?_
    refine kI_ite ?_ ?_
    · exact kI_to keep_r (X1_isDone_J138_kp 1 (rI μ 44 0 (ix a1)) a0 μ)
    · exact kI_to keep_r (X1_isDone_J138_kp 0 (rI μ 44 0 (ix a1)) a0 μ)
  refine kI_ite ?_ ?_
  · refine kI_cn ?_
    exact kI_some (keep_wI rfl keep_r)
  refine kI_ite ?_ ?_
  · refine kI_bI keep_r (X1_turnsTo_kp a0 0 μ) (fun x14 μ15 h_μ15 => ?_)
    refine kI_ck ?_
    exact kI_some h_μ15
  refine kI_ite ?_ ?_
  · refine kI_bI keep_r (X1_doesAny_kp a0 μ) (fun x16 μ17 h_μ17 => ?_)
    refine kI_ck ?_
    exact kI_some h_μ17
  exact kI_some keep_r
/-! ClockRiver$Life.compares -/
theorem X1_compares_kp (a0 : Nat) (a1 : Int32) (a2 : Int32) (μ : sM) : kI pM μ (X1_compares a0 a1 a2 μ) := by
  unfold X1_compares
  refine kI_ck ?_
  refine kI_ck ?_
  refine kI_ite ?_ ?_
  · refine kI_ck ?_
    refine kI_ck ?_
    refine kI_ite ?_ ?_
    · exact kI_some keep_r
    · exact kI_some keep_r
  refine kI_ite ?_ ?_
  · refine kI_ck ?_
    refine kI_ck ?_
    refine kI_ite ?_ ?_
    · exact kI_some keep_r
    · exact kI_some keep_r
  refine kI_ck ?_
  refine kI_ck ?_
  refine kI_ite ?_ ?_
  · exact kI_some keep_r
  · exact kI_some keep_r
/-! ClockRiver$Life.holds -/
theorem X1_holds_kp (a0 : Nat) (a1 : Int32) (μ : sM) : kI pM μ (X1_holds a0 a1 μ) := by
  unfold X1_holds
  refine kI_ck ?_
  refine kI_ck ?_
  refine kI_ite ?_ ?_
  · refine kI_cn ?_
    refine kI_ck ?_
    refine kI_ck ?_
    refine kI_ck ?_
    refine kI_bI keep_r (X1_compares_kp a0 (rI μ 31 ((rR μ 2 a0 8) - 1) (ix (rI μ 44 0 (ix a1)))) a1 μ) (fun x4 μ5 h_μ5 => ?_)
    refine kI_ck ?_
    exact kI_some h_μ5
  refine kI_ite ?_ ?_
  · refine kI_cn ?_
    refine kI_ck ?_
    refine kI_ck ?_
    refine kI_ck ?_
    refine kI_bI keep_r (X1_compares_kp a0 (rI μ 27 ((rR μ 2 a0 8) - 1) (ix (rI μ 44 0 (ix a1)))) a1 μ) (fun x8 μ9 h_μ9 => ?_)
    refine kI_ck ?_
    exact kI_some h_μ9
  refine kI_cn ?_
  refine kI_ck ?_
  exact kI_some keep_r
/-! ClockRiver$Life.rowBehindStep -/
theorem X1_rowBehindStep_kp (a0 : Nat) (a1 : Int32) (μ : sM) : kI pM μ (X1_rowBehindStep a0 a1 μ) := by
  unfold X1_rowBehindStep
  refine kI_ck ?_
  refine kI_ck ?_
  refine kI_ite ?_ ?_
  · refine kI_bI keep_r (X1_holds_kp a0 a1 μ) (fun x2 μ3 h_μ3 => ?_)
    refine kI_ite ?_ ?_
    · refine kI_ck ?_
      refine kI_ck ?_
      exact kI_some h_μ3
    · exact kI_some h_μ3
  refine kI_ite ?_ ?_
  · refine kI_ck ?_
    refine kI_ck ?_
    refine kI_ck ?_
    exact kI_some (keep_wI rfl keep_r)
  refine kI_ite ?_ ?_
  · refine kI_ck ?_
    exact kI_some keep_r
  exact kI_some keep_r
/-! ClockRiver$Life.run -/
theorem X1_run_J167_kp {k56 : Nat → Int32 → Int32 → sM → Option sM} (hk56 : ∀ (v0 : Nat) (v4 : Int32) (v5 : Int32) (μ : sM), kV pM μ (k56 v0 v4 v5 μ)) (v0 : Nat) (v4 : Int32) (v5 : Int32) (μ : sM) : kV pM μ (X1_run_J167 k56 v0 v4 v5 μ) := by
  unfold X1_run_J167
  exact kV_to keep_r (hk56 v0 v4 (v5 + 1) μ)
theorem X1_run_J155_kp {k56 : Nat → Int32 → Int32 → sM → Option sM} (hk56 : ∀ (v0 : Nat) (v4 : Int32) (v5 : Int32) (μ : sM), kV pM μ (k56 v0 v4 v5 μ)) (v0 : Nat) (v4 : Int32) (v5 : Int32) (s0 : Int32) (s1 : Int32) (s2 : Nat) (μ : sM) : kV pM μ (X1_run_J155 k56 v0 v4 v5 s0 s1 s2 μ) := by
  unfold X1_run_J155
  refine kV_bI (keep_wI rfl keep_r) (X1_rowBehindStep_kp v0 v4 (wI μ 2 s2 2 (s1 + s0))) (fun x1 μ2 h_μ2 => ?_)
  exact kV_to h_μ2 (X1_run_J167_kp hk56 v0 x1 v5 μ2)
theorem X1_run_L56_kp : ∀ (n : Nat) (v0 : Nat) (v4 : Int32) (v5 : Int32) (μ : sM), kV pM μ (X1_run_L56 n v0 v4 v5 μ) := by
  intro n
  induction n with
  | zero =>
    intros
    exact kV_none
  | succ n ih =>
    intro v0 v4 v5 μ
    unfold X1_run_L56
    refine kV_ite ?_ ?_
    · exact kV_some keep_r
    · refine kV_ck ?_
      refine kV_ite ?_ ?_
      · exact kV_some keep_r
      · refine kV_ite ?_ ?_
        · refine kV_ck ?_
          refine kV_ck ?_
          refine kV_ite ?_ ?_
          · refine kV_bI keep_r (X1_rowBehindEnd_kp v0 v4 μ) (fun x5 μ6 h_μ6 => ?_)
            exact kV_to h_μ6 (X1_run_J167_kp ih v0 x5 v5 μ6)
          · refine kV_ite ?_ ?_
            · refine kV_bI (keep_wI rfl keep_r) (X1_isDone_kp v0 v4 (wI μ 2 v0 1 ((rI μ 2 v0 1) + 1))) (fun x3 μ4 h_μ4 => ?_)
              refine kV_ite ?_ ?_
              · exact kV_to h_μ4 (X1_run_J155_kp ih v0 v4 v5 1 (rI μ 2 v0 2) v0 μ4)
              · exact kV_to h_μ4 (X1_run_J155_kp ih v0 v4 v5 0 (rI μ 2 v0 2) v0 μ4)
            · exact kV_to (keep_wI rfl keep_r) (X1_run_J167_kp ih v0 v4 v5 (wI μ 2 v0 6 1))
        · exact kV_some keep_r
theorem X1_run_kp (a0 : Nat) (a1 : Nat) (a2 : Nat) (a3 : Int32) (μ : sM) : kV pM μ (X1_run a0 a1 a2 a3 μ) := by
  unfold X1_run
  exact kV_to (keep_wR rfl (keep_wR rfl (keep_wI rfl (keep_wI rfl (keep_wI rfl (keep_wI rfl (keep_wI rfl (keep_wI rfl (keep_wI rfl (keep_wI rfl keep_r)))))))))) (X1_run_L56_kp fuN a0 0 0 (wR (wR (wI (wI (wI (wI (wI (wI (wI (wI μ 2 a0 0 1) 2 a0 1 0) 2 a0 2 0) 2 a0 3 0) 2 a0 4 0) 2 a0 5 0) 2 a0 6 0) 2 a0 7 a3) 2 a0 8 (a1 + 1)) 2 a0 9 (a2 + 1)))
/-! ClockRiver$Life.figure -/
theorem X1_figure_kp (a0 : Nat) (a1 : Int32) (μ : sM) : kI pM μ (X1_figure a0 a1 μ) := by
  unfold X1_figure
  refine kI_ite ?_ ?_
  · exact kI_some keep_r
  refine kI_ite ?_ ?_
  · exact kI_some keep_r
  refine kI_ite ?_ ?_
  · exact kI_some keep_r
  refine kI_ite ?_ ?_
  · exact kI_some keep_r
  exact kI_some keep_r
/-! ClockRiver$RiverReader.readSetting -/
theorem X5_readSetting_J141_kp (μ : sM) : kI pM μ (X5_readSetting_J141 μ) := by
  unfold X5_readSetting_J141
  refine kI_ck ?_
  refine kI_bI keep_r (X6_takeEnd_kp μ) (fun x2 μ3 h_μ3 => ?_)
  refine kI_ck ?_
  exact kI_some h_μ3
theorem X5_readSetting_kp (a1 : Int32) (μ : sM) : kI pM μ (X5_readSetting a1 μ) := by
  unfold X5_readSetting
  refine kI_ck ?_
  refine kI_ite ?_ ?_
  · refine kI_ck ?_
    refine kI_bI keep_r (X6_fail_kp 5 μ) (fun x17 μ18 h_μ18 => ?_)
    refine kI_ck ?_
    exact kI_some h_μ18
  · refine kI_ck ?_
    refine kI_bV (keep_wI rfl keep_r) (X6_advance_kp (wI μ 6 0 3 ((rI μ 6 0 3) ||| (isl 1 (rI μ 7 0 4))))) (fun μ4 h_μ4 => ?_)
    refine kI_ck ?_
    refine kI_bI h_μ4 (X6_takeNumber_kp 0 a1 μ4) (fun x6 μ7 h_μ7 => ?_)
    refine kI_ite ?_ ?_
    · exact kI_some h_μ7
    · refine kI_ite ?_ ?_
      · refine kI_ck ?_
        refine kI_ck ?_
        exact kI_to (keep_wI rfl h_μ7) (X5_readSetting_J141_kp (wI μ7 5 4 0 (rI μ7 7 0 6)))
      · refine kI_ite ?_ ?_
        · refine kI_ck ?_
          refine kI_ck ?_
          exact kI_to (keep_wI rfl h_μ7) (X5_readSetting_J141_kp (wI μ7 5 4 1 (rI μ7 7 0 6)))
        · refine kI_ite ?_ ?_
          · refine kI_ck ?_
            refine kI_ck ?_
            exact kI_to (keep_wI rfl h_μ7) (X5_readSetting_J141_kp (wI μ7 5 4 2 (rI μ7 7 0 6)))
          · refine kI_ck ?_
            refine kI_ck ?_
            exact kI_to (keep_wI rfl h_μ7) (X5_readSetting_J141_kp (wI μ7 5 4 3 (rI μ7 7 0 6)))
/-! ClockRiver$RiverReader.takeNewName -/
theorem X5_takeNewName_kp (μ : sM) : kI pM μ (X5_takeNewName μ) := by
  unfold X5_takeNewName
  refine kI_ck ?_
  refine kI_ite ?_ ?_
  · refine kI_ck ?_
    refine kI_ck ?_
    refine kI_bI keep_r (X4_isTaken_kp 4 (rL μ 7 0 5) μ) (fun x4 μ5 h_μ5 => ?_)
    refine kI_ite ?_ ?_
    · refine kI_ck ?_
      refine kI_ck ?_
      refine kI_bV (keep_wL rfl h_μ5) (X6_advance_kp (wL μ5 6 0 2 (rL μ5 7 0 5))) (fun μ9 h_μ9 => ?_)
      exact kI_some h_μ9
    · refine kI_ck ?_
      refine kI_bI h_μ5 (X6_fail_kp 3 μ5) (fun x11 μ12 h_μ12 => ?_)
      refine kI_ck ?_
      exact kI_some h_μ12
  · refine kI_ck ?_
    refine kI_bI keep_r (X6_failToStand_kp μ) (fun x14 μ15 h_μ15 => ?_)
    refine kI_ck ?_
    exact kI_some h_μ15
/-! ClockRiver$RiverReader.readReach -/
theorem X5_readReach_J152_kp (v1 : Int32) (v2 : Int32) (v3 : Int32) (μ : sM) : kI pM μ (X5_readReach_J152 v1 v2 v3 μ) := by
  unfold X5_readReach_J152
  refine kI_ck ?_
  refine kI_bV keep_r (X3_add_kp 4 (rL μ 6 0 2) v1 v2 v3 μ) (fun μ3 h_μ3 => ?_)
  refine kI_ck ?_
  refine kI_bI h_μ3 (X6_takeEnd_kp μ3) (fun x5 μ6 h_μ6 => ?_)
  refine kI_ck ?_
  exact kI_some h_μ6
theorem X5_readReach_kp (μ : sM) : kI pM μ (X5_readReach μ) := by
  unfold X5_readReach
  refine kI_ck ?_
  refine kI_ite ?_ ?_
  · refine kI_ck ?_
    refine kI_bV keep_r (X6_advance_kp μ) (fun μ4 h_μ4 => ?_)
    refine kI_bI h_μ4 (X5_takeNewName_kp μ4) (fun x5 μ6 h_μ6 => ?_)
    refine kI_ite ?_ ?_
    · exact kI_some h_μ6
    · refine kI_ck ?_
      refine kI_bI h_μ6 (X6_takeWord_kp 5 μ6) (fun x8 μ9 h_μ9 => ?_)
      refine kI_ite ?_ ?_
      · exact kI_some h_μ9
      · refine kI_ck ?_
        refine kI_bI h_μ9 (X6_takeNumber_kp 0 999 μ9) (fun x11 μ12 h_μ12 => ?_)
        refine kI_ite ?_ ?_
        · exact kI_some h_μ12
        · refine kI_ck ?_
          refine kI_ck ?_
          refine kI_bI h_μ12 (X6_takeWord_kp 6 μ12) (fun x15 μ16 h_μ16 => ?_)
          refine kI_ite ?_ ?_
          · exact kI_some h_μ16
          · refine kI_ck ?_
            refine kI_bI h_μ16 (X6_takeNumber_kp 0 99 μ16) (fun x18 μ19 h_μ19 => ?_)
            refine kI_ite ?_ ?_
            · exact kI_some h_μ19
            · refine kI_ck ?_
              refine kI_ck ?_
              refine kI_ite ?_ ?_
              · refine kI_ck ?_
                refine kI_bV h_μ19 (X6_advance_kp μ19) (fun μ24 h_μ24 => ?_)
                refine kI_ck ?_
                refine kI_bI h_μ24 (X6_takeNumber_kp 0 (rI μ12 7 0 6) μ24) (fun x26 μ27 h_μ27 => ?_)
                refine kI_ite ?_ ?_
                · exact kI_some h_μ27
                · refine kI_ck ?_
                  exact kI_to h_μ27 (X5_readReach_J152_kp (rI μ12 7 0 6) (rI μ19 7 0 6) (rI μ27 7 0 6) μ27)
              · exact kI_to h_μ19 (X5_readReach_J152_kp (rI μ12 7 0 6) (rI μ19 7 0 6) 0 μ19)
  · refine kI_ck ?_
    refine kI_bI keep_r (X6_fail_kp 6 μ) (fun x30 μ31 h_μ31 => ?_)
    refine kI_ck ?_
    exact kI_some h_μ31
/-! ClockRiver$RiverReader.readMill -/
theorem X5_readMill_kp (μ : sM) : kI pM μ (X5_readMill μ) := by
  unfold X5_readMill
  refine kI_ck ?_
  refine kI_ite ?_ ?_
  · refine kI_ck ?_
    refine kI_bV keep_r (X6_advance_kp μ) (fun μ4 h_μ4 => ?_)
    refine kI_bI h_μ4 (X5_takeNewName_kp μ4) (fun x5 μ6 h_μ6 => ?_)
    refine kI_ite ?_ ?_
    · exact kI_some h_μ6
    · refine kI_ck ?_
      refine kI_bI h_μ6 (X6_takeWord_kp 9 μ6) (fun x8 μ9 h_μ9 => ?_)
      refine kI_ite ?_ ?_
      · exact kI_some h_μ9
      · refine kI_ck ?_
        refine kI_ite ?_ ?_
        · refine kI_ck ?_
          refine kI_ck ?_
          refine kI_ck ?_
          refine kI_bI h_μ9 (X4_placeOf_28_kp (rL μ9 7 0 5) 4 (rI μ9 4 4 0) μ9) (fun x14 μ15 h_μ15 => ?_)
          refine kI_ite ?_ ?_
          · refine kI_ck ?_
            refine kI_bI h_μ15 (X6_fail_kp 3 μ15) (fun x33 μ34 h_μ34 => ?_)
            refine kI_ck ?_
            exact kI_some h_μ34
          · refine kI_ck ?_
            refine kI_bV h_μ15 (X6_advance_kp μ15) (fun μ18 h_μ18 => ?_)
            refine kI_ck ?_
            refine kI_bI h_μ18 (X6_takeWord_kp 10 μ18) (fun x20 μ21 h_μ21 => ?_)
            refine kI_ite ?_ ?_
            · exact kI_some h_μ21
            · refine kI_ck ?_
              refine kI_bI h_μ21 (X6_takeNumber_kp 1 99 μ21) (fun x23 μ24 h_μ24 => ?_)
              refine kI_ite ?_ ?_
              · exact kI_some h_μ24
              · refine kI_ck ?_
                refine kI_ck ?_
                refine kI_bV h_μ24 (X2_add_kp 4 (rL μ24 6 0 2) x14 (rI μ24 7 0 6) μ24) (fun μ28 h_μ28 => ?_)
                refine kI_ck ?_
                refine kI_bI h_μ28 (X6_takeEnd_kp μ28) (fun x30 μ31 h_μ31 => ?_)
                refine kI_ck ?_
                exact kI_some h_μ31
        · refine kI_ck ?_
          refine kI_bI h_μ9 (X6_failToStand_kp μ9) (fun x36 μ37 h_μ37 => ?_)
          refine kI_ck ?_
          exact kI_some h_μ37
  · refine kI_ck ?_
    refine kI_bI keep_r (X6_fail_kp 6 μ) (fun x39 μ40 h_μ40 => ?_)
    refine kI_ck ?_
    exact kI_some h_μ40
/-! ClockRiver$RiverReader.readWinder -/
theorem X5_readWinder_J118_kp (v1 : Int32) (v2 : Int32) (μ : sM) : kI pM μ (X5_readWinder_J118 v1 v2 μ) := by
  unfold X5_readWinder_J118
  refine kI_ck ?_
  refine kI_bV keep_r (X10_add_kp 4 (rL μ 6 0 2) v1 v2 μ) (fun μ3 h_μ3 => ?_)
  refine kI_ck ?_
  refine kI_bI h_μ3 (X6_takeEnd_kp μ3) (fun x5 μ6 h_μ6 => ?_)
  refine kI_ck ?_
  exact kI_some h_μ6
theorem X5_readWinder_kp (μ : sM) : kI pM μ (X5_readWinder μ) := by
  unfold X5_readWinder
  refine kI_ck ?_
  refine kI_ite ?_ ?_
  · refine kI_ck ?_
    refine kI_bV keep_r (X6_advance_kp μ) (fun μ4 h_μ4 => ?_)
    refine kI_bI h_μ4 (X5_takeNewName_kp μ4) (fun x5 μ6 h_μ6 => ?_)
    refine kI_ite ?_ ?_
    · exact kI_some h_μ6
    · refine kI_ck ?_
      refine kI_bI h_μ6 (X6_takeWord_kp 12 μ6) (fun x8 μ9 h_μ9 => ?_)
      refine kI_ite ?_ ?_
      · exact kI_some h_μ9
      · refine kI_ck ?_
        refine kI_bI h_μ9 (X6_takeNumber_kp 1 40 μ9) (fun x11 μ12 h_μ12 => ?_)
        refine kI_ite ?_ ?_
        · exact kI_some h_μ12
        · refine kI_ck ?_
          refine kI_ck ?_
          refine kI_ite ?_ ?_
          · refine kI_ck ?_
            refine kI_bV h_μ12 (X6_advance_kp μ12) (fun μ17 h_μ17 => ?_)
            refine kI_ck ?_
            refine kI_bI h_μ17 (X6_takeNumber_kp 0 99 μ17) (fun x19 μ20 h_μ20 => ?_)
            refine kI_ite ?_ ?_
            · exact kI_some h_μ20
            · refine kI_ck ?_
              exact kI_to h_μ20 (X5_readWinder_J118_kp (rI μ12 7 0 6) (rI μ20 7 0 6) μ20)
          · exact kI_to h_μ12 (X5_readWinder_J118_kp (rI μ12 7 0 6) 1 μ12)
  · refine kI_ck ?_
    refine kI_bI keep_r (X6_fail_kp 6 μ) (fun x23 μ24 h_μ24 => ?_)
    refine kI_ck ?_
    exact kI_some h_μ24
/-! ClockRiver$RiverReader.readPart -/
theorem X5_readPart_kp (μ : sM) : kI pM μ (X5_readPart μ) := by
  unfold X5_readPart
  refine kI_ck ?_
  refine kI_ite ?_ ?_
  · refine kI_bI keep_r (X5_readSetting_kp 60 μ) (fun x2 μ3 h_μ3 => ?_)
    refine kI_ck ?_
    exact kI_some h_μ3
  refine kI_ite ?_ ?_
  · refine kI_bI keep_r (X5_readSetting_kp 9 μ) (fun x4 μ5 h_μ5 => ?_)
    refine kI_ck ?_
    exact kI_some h_μ5
  refine kI_ite ?_ ?_
  · refine kI_bI keep_r (X5_readSetting_kp 99 μ) (fun x6 μ7 h_μ7 => ?_)
    refine kI_ck ?_
    exact kI_some h_μ7
  refine kI_ite ?_ ?_
  · refine kI_bI keep_r (X5_readSetting_kp 16 μ) (fun x8 μ9 h_μ9 => ?_)
    refine kI_ck ?_
    exact kI_some h_μ9
  refine kI_ite ?_ ?_
  · refine kI_bI keep_r (X5_readReach_kp μ) (fun x10 μ11 h_μ11 => ?_)
    refine kI_ck ?_
    exact kI_some h_μ11
  refine kI_ite ?_ ?_
  · refine kI_bI keep_r (X5_readMill_kp μ) (fun x12 μ13 h_μ13 => ?_)
    refine kI_ck ?_
    exact kI_some h_μ13
  refine kI_ite ?_ ?_
  · refine kI_bI keep_r (X5_readWinder_kp μ) (fun x14 μ15 h_μ15 => ?_)
    refine kI_ck ?_
    exact kI_some h_μ15
  refine kI_ck ?_
  refine kI_bI keep_r (X6_failToStand_kp μ) (fun x17 μ18 h_μ18 => ?_)
  refine kI_ck ?_
  exact kI_some h_μ18
/-! ClockRiver$RiverReader.readInto -/
theorem X5_readInto_L24_kp : ∀ (n : Nat) (v3 : Int32) (μ : sM), kI pM μ (X5_readInto_L24 n v3 μ) := by
  intro n
  induction n with
  | zero =>
    intros
    exact kI_none
  | succ n ih =>
    intro v3 μ
    unfold X5_readInto_L24
    refine kI_ite ?_ ?_
    · exact kI_some keep_r
    · refine kI_ck ?_
      refine kI_ite ?_ ?_
      · exact kI_some keep_r
      · refine kI_bI keep_r (X5_readPart_kp μ) (fun x2 μ3 h_μ3 => ?_)
        refine kI_ite ?_ ?_
        · exact kI_some h_μ3
        · exact kI_to h_μ3 (ih (v3 + 1) μ3)
theorem X5_readInto_kp (a2 : Nat) (μ : sM) : kI pM μ (X5_readInto a2 μ) := by
  unfold X5_readInto
  refine kI_ck ?_
  refine kI_bV (keep_wI rfl (keep_wR rfl (keep_wR rfl keep_r))) (X4_clear_kp 4 (wI (wR (wR μ 6 0 0 (0 + 1)) 6 0 1 (a2 + 1)) 6 0 3 0)) (fun μ3 h_μ3 => ?_)
  exact kI_to h_μ3 (X5_readInto_L24_kp fuN 0 μ3)
/-! ClockRiver$WeeksReader.beginEnd -/
theorem X9_beginEnd_kp (μ : sM) : kI pM μ (X9_beginEnd μ) := by
  unfold X9_beginEnd
  refine kI_ck ?_
  refine kI_bI (keep_wI rfl keep_r) (X8_addRow_kp 4 25 (wI μ 10 0 4 ((rI μ 10 0 4) - 1))) (fun x1 μ2 h_μ2 => ?_)
  refine kI_ck ?_
  refine kI_ck ?_
  refine kI_ck ?_
  refine kI_bV (keep_wI rfl (keep_wI rfl (keep_wI rfl h_μ2))) (X6_advance_kp (wI (wI (wI μ2 10 0 3 x1) 48 4 (ix x1) (rI μ 49 0 (ix ((rI μ 10 0 4) - 1)))) 48 4 (ix (rI μ 49 0 (ix ((rI μ 10 0 4) - 1)))) x1)) (fun μ5 h_μ5 => ?_)
  exact kI_some h_μ5
/-! ClockRiver$WeeksReader.isStep -/
theorem X9_isStep_kp (a0 : Int32) (μ : sM) : kI pM μ (X9_isStep a0 μ) := by
  unfold X9_isStep
  refine kI_ite ?_ ?_
  · exact kI_some keep_r
  refine kI_ite ?_ ?_
  · exact kI_some keep_r
  refine kI_ite ?_ ?_
  · exact kI_some keep_r
  refine kI_ite ?_ ?_
  · exact kI_some keep_r
  refine kI_ite ?_ ?_
  · exact kI_some keep_r
  refine kI_ite ?_ ?_
  · exact kI_some keep_r
  refine kI_ite ?_ ?_
  · exact kI_some keep_r
  refine kI_ite ?_ ?_
  · exact kI_some keep_r
  refine kI_ite ?_ ?_
  · exact kI_some keep_r
  refine kI_ite ?_ ?_
  · exact kI_some keep_r
  exact kI_some keep_r
/-! ClockRiver$WeeksReader.beginStep -/
theorem X9_beginStep_J137_kp (μ : sM) : kI pM μ (X9_beginStep_J137 μ) := by
  unfold X9_beginStep_J137
  refine kI_ck ?_
  refine kI_bV keep_r (X6_advance_kp μ) (fun μ3 h_μ3 => ?_)
  exact kI_some h_μ3
theorem X9_beginStep_J85_kp (v1 : Int32) (v2 : Int32) (μ : sM) : kI pM μ (X9_beginStep_J85 v1 v2 μ) := by
  unfold X9_beginStep_J85
  refine kI_bI keep_r (X8_addRow_kp 4 v1 μ) (fun x1 μ2 h_μ2 => ?_)
  refine kI_ite ?_ ?_
  · exact kI_to (keep_wI rfl (keep_wI rfl h_μ2)) (X9_beginStep_J137_kp (wI (wI μ2 10 0 3 x1) 9 4 1 ((rI μ2 9 4 1) + 1)))
  · refine kI_ck ?_
    exact kI_to (keep_wI rfl (keep_wI rfl (keep_wI rfl (keep_wI rfl h_μ2)))) (X9_beginStep_J137_kp (wI (wI (wI (wI μ2 10 0 3 x1) 9 4 1 ((rI μ2 9 4 1) + 1)) 49 0 (ix (rI μ2 10 0 4)) x1) 10 0 4 ((rI μ2 10 0 4) + 1)))
theorem X9_beginStep_J62_kp (v1 : Int32) (s0 : Int32) (μ : sM) : kI pM μ (X9_beginStep_J62 v1 s0 μ) := by
  unfold X9_beginStep_J62
  refine kI_ite ?_ ?_
  · exact kI_to keep_r (X9_beginStep_J85_kp v1 s0 μ)
  · refine kI_ite ?_ ?_
    · exact kI_to keep_r (X9_beginStep_J85_kp v1 s0 μ)
    · refine kI_ck ?_
      refine kI_bI keep_r (X6_fail_kp 7 μ) (fun x2 μ3 h_μ3 => ?_)
      refine kI_ck ?_
      exact kI_some h_μ3
theorem X9_beginStep_J57_kp (v1 : Int32) (μ : sM) : kI pM μ (X9_beginStep_J57 v1 μ) := by
  unfold X9_beginStep_J57
  exact kI_to keep_r (X9_beginStep_J62_kp v1 1 μ)
theorem X9_beginStep_kp (μ : sM) : kI pM μ (X9_beginStep μ) := by
  unfold X9_beginStep
  refine kI_ck ?_
  refine kI_bI keep_r (X9_isStep_kp (rI μ 7 0 4) μ) (fun x2 μ3 h_μ3 => ?_)
  refine kI_ite ?_ ?_
  · refine kI_ck ?_
    refine kI_bI h_μ3 (X6_failToStand_kp μ3) (fun x8 μ9 h_μ9 => ?_)
    refine kI_ck ?_
    exact kI_some h_μ9
  · refine kI_ite ?_ ?_
    · refine kI_ite ?_ ?_
      · exact kI_to h_μ3 (X9_beginStep_J57_kp (rI μ 7 0 4) μ3)
      · refine kI_ite ?_ ?_
        · exact kI_to h_μ3 (X9_beginStep_J57_kp (rI μ 7 0 4) μ3)
        · exact kI_to h_μ3 (X9_beginStep_J62_kp (rI μ 7 0 4) 0 μ3)
    · refine kI_ck ?_
      refine kI_bI h_μ3 (X6_fail_kp 6 μ3) (fun x5 μ6 h_μ6 => ?_)
      refine kI_ck ?_
      exact kI_some h_μ6
/-! ClockRiver$WeeksReader.takeNumber -/
theorem X9_takeNumber_kp (a1 : Int32) (a2 : Int32) (μ : sM) : kI pM μ (X9_takeNumber a1 a2 μ) := by
  unfold X9_takeNumber
  refine kI_ck ?_
  refine kI_bI keep_r (X6_takeNumber_kp a1 a2 μ) (fun x2 μ3 h_μ3 => ?_)
  refine kI_ite ?_ ?_
  · exact kI_some h_μ3
  · refine kI_ck ?_
    refine kI_ck ?_
    exact kI_some (keep_wI rfl h_μ3)
/-! ClockRiver$WeeksReader.takeName -/
theorem X9_takeName_28_kp (a1 : Nat) (a2 : Int32) (μ : sM) : kI pM μ (X9_takeName_28 a1 a2 μ) := by
  unfold X9_takeName_28
  refine kI_ck ?_
  refine kI_ite ?_ ?_
  · refine kI_ck ?_
    refine kI_bI keep_r (X4_placeOf_28_kp (rL μ 7 0 5) a1 a2 μ) (fun x3 μ4 h_μ4 => ?_)
    refine kI_ite ?_ ?_
    · refine kI_ck ?_
      refine kI_bI h_μ4 (X6_fail_kp 3 μ4) (fun x9 μ10 h_μ10 => ?_)
      refine kI_ck ?_
      exact kI_some h_μ10
    · refine kI_ck ?_
      refine kI_ck ?_
      refine kI_bV (keep_wI rfl h_μ4) (X6_advance_kp (wI μ4 44 4 (ix (rI μ4 10 0 3)) x3)) (fun μ7 h_μ7 => ?_)
      exact kI_some h_μ7
  · refine kI_ck ?_
    refine kI_bI keep_r (X6_failToStand_kp μ) (fun x12 μ13 h_μ13 => ?_)
    refine kI_ck ?_
    exact kI_some h_μ13
/-! ClockRiver$WeeksReader.takeName -/
theorem X9_takeName_24_kp (a1 : Nat) (a2 : Int32) (μ : sM) : kI pM μ (X9_takeName_24 a1 a2 μ) := by
  unfold X9_takeName_24
  refine kI_ck ?_
  refine kI_ite ?_ ?_
  · refine kI_ck ?_
    refine kI_bI keep_r (X4_placeOf_24_kp (rL μ 7 0 5) a1 a2 μ) (fun x3 μ4 h_μ4 => ?_)
    refine kI_ite ?_ ?_
    · refine kI_ck ?_
      refine kI_bI h_μ4 (X6_fail_kp 3 μ4) (fun x9 μ10 h_μ10 => ?_)
      refine kI_ck ?_
      exact kI_some h_μ10
    · refine kI_ck ?_
      refine kI_ck ?_
      refine kI_bV (keep_wI rfl h_μ4) (X6_advance_kp (wI μ4 44 4 (ix (rI μ4 10 0 3)) x3)) (fun μ7 h_μ7 => ?_)
      exact kI_some h_μ7
  · refine kI_ck ?_
    refine kI_bI keep_r (X6_failToStand_kp μ) (fun x12 μ13 h_μ13 => ?_)
    refine kI_ck ?_
    exact kI_some h_μ13
/-! ClockRiver$WeeksReader.takeName -/
theorem X9_takeName_50_kp (a1 : Nat) (a2 : Int32) (μ : sM) : kI pM μ (X9_takeName_50 a1 a2 μ) := by
  unfold X9_takeName_50
  refine kI_ck ?_
  refine kI_ite ?_ ?_
  · refine kI_ck ?_
    refine kI_bI keep_r (X4_placeOf_50_kp (rL μ 7 0 5) a1 a2 μ) (fun x3 μ4 h_μ4 => ?_)
    refine kI_ite ?_ ?_
    · refine kI_ck ?_
      refine kI_bI h_μ4 (X6_fail_kp 3 μ4) (fun x9 μ10 h_μ10 => ?_)
      refine kI_ck ?_
      exact kI_some h_μ10
    · refine kI_ck ?_
      refine kI_ck ?_
      refine kI_bV (keep_wI rfl h_μ4) (X6_advance_kp (wI μ4 44 4 (ix (rI μ4 10 0 3)) x3)) (fun μ7 h_μ7 => ?_)
      exact kI_some h_μ7
  · refine kI_ck ?_
    refine kI_bI keep_r (X6_failToStand_kp μ) (fun x12 μ13 h_μ13 => ?_)
    refine kI_ck ?_
    exact kI_some h_μ13
/-! ClockRiver$WeeksReader.readWind -/
theorem X9_readWind_kp (μ : sM) : kI pM μ (X9_readWind μ) := by
  unfold X9_readWind
  refine kI_ck ?_
  refine kI_ck ?_
  refine kI_bI keep_r (X9_takeName_50_kp 0 (rI μ 11 0 0) μ) (fun x3 μ4 h_μ4 => ?_)
  refine kI_ite ?_ ?_
  · exact kI_some h_μ4
  · refine kI_ck ?_
    refine kI_ite ?_ ?_
    · refine kI_ck ?_
      refine kI_ck ?_
      refine kI_bV (keep_wI rfl h_μ4) (X6_advance_kp (wI μ4 45 4 (ix (rI μ4 10 0 3)) 1)) (fun μ8 h_μ8 => ?_)
      exact kI_some h_μ8
    · exact kI_some h_μ4
/-! ClockRiver$WeeksReader.takeComparison -/
theorem X9_takeComparison_J26_kp (μ : sM) : kI pM μ (X9_takeComparison_J26 μ) := by
  unfold X9_takeComparison_J26
  refine kI_ck ?_
  refine kI_bI keep_r (X6_failToStand_kp μ) (fun x2 μ3 h_μ3 => ?_)
  refine kI_ck ?_
  exact kI_some h_μ3
theorem X9_takeComparison_kp (μ : sM) : kI pM μ (X9_takeComparison μ) := by
  unfold X9_takeComparison
  refine kI_ck ?_
  refine kI_ite ?_ ?_
  · refine kI_ck ?_
    refine kI_ite ?_ ?_
    · exact kI_to keep_r (X9_takeComparison_J26_kp μ)
    · refine kI_ck ?_
      refine kI_ck ?_
      refine kI_ck ?_
      refine kI_bV (keep_wI rfl keep_r) (X6_advance_kp (wI μ 47 4 (ix (rI μ 10 0 3)) (Int64.toInt32 (rL μ 7 0 5)))) (fun μ6 h_μ6 => ?_)
      exact kI_some h_μ6
  · exact kI_to keep_r (X9_takeComparison_J26_kp μ)
/-! ClockRiver$WeeksReader.readTest -/
theorem X9_readTest_kp (μ : sM) : kI pM μ (X9_readTest μ) := by
  unfold X9_readTest
  refine kI_ck ?_
  refine kI_ck ?_
  refine kI_ck ?_
  refine kI_ite ?_ ?_
  · refine kI_ck ?_
    refine kI_bV (keep_wI rfl keep_r) (X6_advance_kp (wI μ 46 4 (ix (rI μ 10 0 3)) (rI μ 7 0 4))) (fun μ5 h_μ5 => ?_)
    refine kI_ck ?_
    refine kI_ck ?_
    refine kI_bI h_μ5 (X9_takeName_28_kp 0 (rI μ5 4 0 0) μ5) (fun x8 μ9 h_μ9 => ?_)
    refine kI_ite ?_ ?_
    · exact kI_some h_μ9
    · refine kI_bI h_μ9 (X9_takeComparison_kp μ9) (fun x10 μ11 h_μ11 => ?_)
      refine kI_ite ?_ ?_
      · exact kI_some h_μ11
      · refine kI_bI h_μ11 (X9_takeNumber_kp 0 999 μ11) (fun x12 μ13 h_μ13 => ?_)
        refine kI_ite ?_ ?_
        · exact kI_some h_μ13
        · exact kI_some h_μ13
  refine kI_ite ?_ ?_
  · refine kI_ck ?_
    refine kI_bV (keep_wI rfl keep_r) (X6_advance_kp (wI μ 46 4 (ix (rI μ 10 0 3)) (rI μ 7 0 4))) (fun μ16 h_μ16 => ?_)
    refine kI_ck ?_
    refine kI_ck ?_
    refine kI_bI h_μ16 (X9_takeName_24_kp 0 (rI μ16 3 0 0) μ16) (fun x19 μ20 h_μ20 => ?_)
    refine kI_ite ?_ ?_
    · exact kI_some h_μ20
    · refine kI_bI h_μ20 (X9_takeComparison_kp μ20) (fun x21 μ22 h_μ22 => ?_)
      refine kI_ite ?_ ?_
      · exact kI_some h_μ22
      · refine kI_bI h_μ22 (X9_takeNumber_kp 0 9999 μ22) (fun x23 μ24 h_μ24 => ?_)
        refine kI_ite ?_ ?_
        · exact kI_some h_μ24
        · exact kI_some h_μ24
  refine kI_ck ?_
  refine kI_bI (keep_wI rfl keep_r) (X6_takeWord_kp 23 (wI μ 46 4 (ix (rI μ 10 0 3)) (rI μ 7 0 4))) (fun x26 μ27 h_μ27 => ?_)
  refine kI_ck ?_
  exact kI_some h_μ27
/-! ClockRiver$WeeksReader.readRest -/
theorem X9_readRest_kp (μ : sM) : kI pM μ (X9_readRest μ) := by
  unfold X9_readRest
  refine kI_ck ?_
  refine kI_ite ?_ ?_
  · refine kI_ck ?_
    refine kI_ck ?_
    refine kI_bI keep_r (X9_takeName_28_kp 0 (rI μ 4 0 0) μ) (fun x3 μ4 h_μ4 => ?_)
    refine kI_ite ?_ ?_
    · exact kI_some h_μ4
    · refine kI_bI h_μ4 (X9_takeNumber_kp 0 99 μ4) (fun x5 μ6 h_μ6 => ?_)
      refine kI_ite ?_ ?_
      · exact kI_some h_μ6
      · exact kI_some h_μ6
  refine kI_ite ?_ ?_
  · refine kI_bI keep_r (X9_takeNumber_kp 1 24 μ) (fun x7 μ8 h_μ8 => ?_)
    refine kI_ck ?_
    exact kI_some h_μ8
  refine kI_ite ?_ ?_
  · refine kI_bI keep_r (X9_readWind_kp μ) (fun x9 μ10 h_μ10 => ?_)
    refine kI_ck ?_
    exact kI_some h_μ10
  refine kI_ite ?_ ?_
  · refine kI_bI keep_r (X9_readTest_kp μ) (fun x11 μ12 h_μ12 => ?_)
    refine kI_ck ?_
    exact kI_some h_μ12
  refine kI_ite ?_ ?_
  · refine kI_bI keep_r (X9_takeNumber_kp 1 99 μ) (fun x13 μ14 h_μ14 => ?_)
    refine kI_ck ?_
    exact kI_some h_μ14
  exact kI_some keep_r
/-! ClockRiver$WeeksReader.readFor -/
theorem X9_readFor_J81_kp {k32 : Int32 → sM → Option (Int32 × sM)} (hk32 : ∀ (v3 : Int32) (μ : sM), kI pM μ (k32 v3 μ)) (v3 : Int32) (s0 : Int32) (μ : sM) : kI pM μ (X9_readFor_J81 k32 v3 s0 μ) := by
  unfold X9_readFor_J81
  refine kI_ite ?_ ?_
  · exact kI_some keep_r
  · refine kI_bI keep_r (X9_readRest_kp μ) (fun x1 μ2 h_μ2 => ?_)
    refine kI_ite ?_ ?_
    · exact kI_some h_μ2
    · refine kI_ck ?_
      refine kI_bI h_μ2 (X6_takeEnd_kp μ2) (fun x4 μ5 h_μ5 => ?_)
      refine kI_ite ?_ ?_
      · exact kI_some h_μ5
      · exact kI_to h_μ5 (hk32 (v3 + 1) μ5)
theorem X9_readFor_J77_kp {k32 : Int32 → sM → Option (Int32 × sM)} (hk32 : ∀ (v3 : Int32) (μ : sM), kI pM μ (k32 v3 μ)) (v3 : Int32) (μ : sM) : kI pM μ (X9_readFor_J77 k32 v3 μ) := by
  unfold X9_readFor_J77
  refine kI_bI keep_r (X9_beginStep_kp μ) (fun x1 μ2 h_μ2 => ?_)
  exact kI_to h_μ2 (X9_readFor_J81_kp hk32 v3 x1 μ2)
theorem X9_readFor_J113_kp (μ : sM) : kI pM μ (X9_readFor_J113 μ) := by
  unfold X9_readFor_J113
  refine kI_ite ?_ ?_
  · exact kI_some keep_r
  · refine kI_ck ?_
    refine kI_bI keep_r (X6_failToStand_kp μ) (fun x2 μ3 h_μ3 => ?_)
    refine kI_ite ?_ ?_
    · exact kI_some h_μ3
    · exact kI_some h_μ3
theorem X9_readFor_L32_kp : ∀ (n : Nat) (v3 : Int32) (μ : sM), kI pM μ (X9_readFor_L32 n v3 μ) := by
  intro n
  induction n with
  | zero =>
    intros
    exact kI_none
  | succ n ih =>
    intro v3 μ
    unfold X9_readFor_L32
    refine kI_ite ?_ ?_
    · exact kI_to keep_r (X9_readFor_J113_kp μ)
    · refine kI_ck ?_
      refine kI_ite ?_ ?_
      · exact kI_to keep_r (X9_readFor_J113_kp μ)
      · refine kI_ck ?_
        refine kI_ite ?_ ?_
        · refine kI_ite ?_ ?_
          · exact kI_to keep_r (X9_readFor_J77_kp ih v3 μ)
          · refine kI_bI keep_r (X9_beginEnd_kp μ) (fun x3 μ4 h_μ4 => ?_)
            exact kI_to h_μ4 (X9_readFor_J81_kp ih v3 x3 μ4)
        · exact kI_to keep_r (X9_readFor_J77_kp ih v3 μ)
theorem X9_readFor_kp (a2 : Nat) (μ : sM) : kI pM μ (X9_readFor a2 μ) := by
  unfold X9_readFor
  refine kI_bV (keep_wI rfl (keep_wR rfl (keep_wR rfl keep_r))) (X8_forget_kp 4 (wI (wR (wR μ 10 0 1 (0 + 1)) 10 0 2 (a2 + 1)) 10 0 4 0)) (fun μ2 h_μ2 => ?_)
  exact kI_to (keep_wI rfl h_μ2) (X9_readFor_L32_kp fuN 0 (wI μ2 9 4 0 1))
