theorem lk_0_110 : Cond.methodLink (kRn 0) 110 yX4_letWind ∈ sT := sT_in (n := 1282) (by decide +kernel) rfl
theorem lk_0_129 : Cond.methodLink (kRn 0) 129 yX0_play ∈ sT := sT_in (n := 1323) (by decide +kernel) rfl
theorem lk_0_132 : Cond.methodLink (kRn 0) 132 yX0_leadOf ∈ sT := sT_in (n := 1327) (by decide +kernel) rfl
theorem lk_0_136 : Cond.methodLink (kRn 0) 136 yX0_moveGate ∈ sT := sT_in (n := 1331) (by decide +kernel) rfl
theorem lk_0_25 : Cond.methodLink (kRn 0) 25 yX4_copyFrom ∈ sT := sT_in (n := 1194) (by decide +kernel) rfl
theorem lk_0_29 : Cond.methodLink (kRn 0) 29 yX0_copyOf ∈ sT := sT_in (n := 1190) (by decide +kernel) rfl
theorem lk_0_33 : Cond.methodLink (kRn 0) 33 yX4_passHours ∈ sT := sT_in (n := 1195) (by decide +kernel) rfl
theorem lk_0_46 : Cond.methodLink (kRn 0) 46 yX4_passHour ∈ sT := sT_in (n := 1216) (by decide +kernel) rfl
theorem lk_0_90 : Cond.methodLink (kRn 0) 90 yX0_tryHands ∈ sT := sT_in (n := 1277) (by decide +kernel) rfl
theorem ys_X0_moveGate : yS yX0_moveGate cX0_moveGate 4 none 3 := ⟨⟨sT_in (n := 1333) (by decide +kernel) rfl, sT_in (n := 147) (by decide +kernel) rfl, by decide +kernel, by decide⟩, sT_in (n := 1332) (by decide +kernel) rfl⟩
theorem yv_X0_copyOf : yV yX0_copyOf cX0_copyOf 2 (some (.object "ClockRiver$River")) 1 := ⟨⟨sT_in (n := 1193) (by decide +kernel) rfl, sT_in (n := 147) (by decide +kernel) rfl, by decide +kernel, by decide⟩, sT_in (n := 1191) (by decide +kernel) rfl, sT_in (n := 1192) (by decide +kernel) rfl⟩
theorem yv_X0_leadOf : yV yX0_leadOf cX0_leadOf 2 (some .int) 1 := ⟨⟨sT_in (n := 1330) (by decide +kernel) rfl, sT_in (n := 147) (by decide +kernel) rfl, by decide +kernel, by decide⟩, sT_in (n := 1329) (by decide +kernel) rfl, sT_in (n := 31) (by decide +kernel) rfl⟩
theorem yv_X0_play : yV yX0_play cX0_play 7 (some .int) 1 := ⟨⟨sT_in (n := 1326) (by decide +kernel) rfl, sT_in (n := 147) (by decide +kernel) rfl, by decide +kernel, by decide⟩, sT_in (n := 1325) (by decide +kernel) rfl, sT_in (n := 30) (by decide +kernel) rfl⟩
theorem yv_X0_tryHands : yV yX0_tryHands cX0_tryHands 10 none 3 := ⟨⟨sT_in (n := 1280) (by decide +kernel) rfl, sT_in (n := 147) (by decide +kernel) rfl, by decide +kernel, by decide⟩, sT_in (n := 1279) (by decide +kernel) rfl, sT_in (n := 29) (by decide +kernel) rfl⟩
theorem yv_X4_copyFrom : yV yX4_copyFrom cX4_copyFrom 2 none 1 := ⟨⟨sT_in (n := 928) (by decide +kernel) rfl, sT_in (n := 138) (by decide +kernel) rfl, by decide +kernel, by decide⟩, sT_in (n := 926) (by decide +kernel) rfl, sT_in (n := 927) (by decide +kernel) rfl⟩
theorem yv_X4_letWind : yV yX4_letWind cX4_letWind 4 none 2 := ⟨⟨sT_in (n := 1141) (by decide +kernel) rfl, sT_in (n := 138) (by decide +kernel) rfl, by decide +kernel, by decide⟩, sT_in (n := 1139) (by decide +kernel) rfl, sT_in (n := 1140) (by decide +kernel) rfl⟩
theorem yv_X4_passHours : yV yX4_passHours cX4_passHours 4 (some .int) 1 := ⟨⟨sT_in (n := 1091) (by decide +kernel) rfl, sT_in (n := 138) (by decide +kernel) rfl, by decide +kernel, by decide⟩, sT_in (n := 1089) (by decide +kernel) rfl, sT_in (n := 1090) (by decide +kernel) rfl⟩
/-! ClockRiver$Ahead.spare -/
def X0_spare (μ : sM) : Option (Nat × sM) :=
  some (4, μ)
theorem tX0_spare (μ : sM) : sMt yX0_spare cX0_spare 1 (some (.object "ClockRiver$River")) 1 [vr 1 0] μ ((oA 5) (X0_spare μ)) := by
  refine sMt_of (own := 0) (bl := false) (by decide +kernel) rfl (Nat.le_of_ble_eq_true rfl) (fun r ρ h => ?_) ?_
  · obtain ⟨q, -, hq⟩ := Option.map_eq_some_iff.mp h
    cases hq
    exact ⟨_, rfl⟩
  · unfold X0_spare
    show sOk 0 cX0_spare 1 1 false 0 [(0, vr 1 0)] [] μ _
    refine sBk (lo' := [(0, vr 1 0)]) (st' := [vi 0, vr 20 0]) (μ' := μ) (pc' := 5) [(.aload_n 0, 0, 0, 0, 0), (.getfield 11, 0, 0, 0, 0), (.iconst 0, 0, 0, 0, 0)] (by decide +kernel) rfl rfl ?_
    refine sC_aal (n := 5) (j := 0) (by decide +kernel) (by decide +kernel) rfl rfl (by decide +kernel) ?_
    exact sRa (by decide +kernel)
/-! ClockRiver$Ahead.copyOf -/
def X0_copyOf (a1 : Nat) (μ : sM) : Option (Nat × sM) :=
  bV (X4_copyFrom 4 a1 μ) fun μ2 =>
    some (4, μ2)
theorem tX0_copyOf (a1 : Nat) (μ : sM) : sMt yX0_copyOf cX0_copyOf 2 (some (.object "ClockRiver$River")) 3 [vr 1 0, vr 5 a1] μ ((oA 5) (X0_copyOf a1 μ)) := by
  refine sMt_of (own := 0) (bl := false) (by decide +kernel) rfl (Nat.le_of_ble_eq_true rfl) (fun r ρ h => ?_) ?_
  · obtain ⟨q, -, hq⟩ := Option.map_eq_some_iff.mp h
    cases hq
    exact ⟨_, rfl⟩
  · unfold X0_copyOf
    show sOk 0 cX0_copyOf 2 3 false 0 [(0, vr 1 0), (1, vr 5 a1)] [] μ _
    refine sBk (lo' := [(0, vr 1 0), (1, vr 5 a1)]) (st' := [vi 0, vr 20 0]) (μ' := μ) (pc' := 5) [(.aload_n 0, 0, 0, 0, 0), (.getfield 11, 0, 0, 0, 0), (.iconst 0, 0, 0, 0, 0)] (by decide +kernel) rfl rfl ?_
    refine sC_aal (n := 5) (j := 0) (by decide +kernel) (by decide +kernel) rfl rfl (by decide +kernel) ?_
    refine sBk (lo' := [(0, vr 1 0), (1, vr 5 a1)]) (st' := [vr 5 a1, vr 5 4]) (μ' := μ) (pc' := 7) [(.aload_n 1, 0, 0, 0, 0)] (by decide +kernel) rfl rfl ?_
    refine sCvV (oA 5) rfl (ci := 4) (q := (5, 4)) (avs := [vr 5 a1]) (rest := []) (tX4_copyFrom 4 a1 μ) (by decide) (by decide +kernel) lk_0_25 yv_X4_copyFrom rfl (by decide) rfl rfl rfl (Nat.le_of_ble_eq_true rfl) (fun μ2 => ?_)
    refine sBk (lo' := [(0, vr 1 0), (1, vr 5 a1)]) (st' := [vi 0, vr 20 0]) (μ' := μ2) (pc' := 15) [(.aload_n 0, 0, 0, 0, 0), (.getfield 11, 0, 0, 0, 0), (.iconst 0, 0, 0, 0, 0)] (by decide +kernel) rfl rfl ?_
    refine sC_aal (n := 5) (j := 0) (by decide +kernel) (by decide +kernel) rfl rfl (by decide +kernel) ?_
    exact sRa (by decide +kernel)
/-! ClockRiver$Ahead.later -/
def X0_later (a1 : Nat) (a2 : Int32) (μ : sM) : Option (Nat × sM) :=
  bA (X0_copyOf a1 μ) fun x1 μ2 =>
    bI (X4_passHours x1 a2 μ2) fun x3 μ4 =>
      some (x1, μ4)
theorem tX0_later (a1 : Nat) (a2 : Int32) (μ : sM) : sMt yX0_later cX0_later 4 (some (.object "ClockRiver$River")) 4 [vr 1 0, vr 5 a1, vi a2] μ ((oA 5) (X0_later a1 a2 μ)) := by
  refine sMt_of (own := 0) (bl := false) (by decide +kernel) rfl (Nat.le_of_ble_eq_true rfl) (fun r ρ h => ?_) ?_
  · obtain ⟨q, -, hq⟩ := Option.map_eq_some_iff.mp h
    cases hq
    exact ⟨_, rfl⟩
  · unfold X0_later
    show sOk 0 cX0_later 4 4 false 0 [(0, vr 1 0), (1, vr 5 a1), (2, vi a2)] [] μ _
    refine sBk (lo' := [(0, vr 1 0), (1, vr 5 a1), (2, vi a2)]) (st' := [vr 5 a1, vr 1 0]) (μ' := μ) (pc' := 2) [(.aload_n 0, 0, 0, 0, 0), (.aload_n 1, 0, 0, 0, 0)] (by decide +kernel) rfl rfl ?_
    refine sCvA (oA 5) rfl (ci := 0) (q := (1, 0)) (avs := [vr 5 a1]) (rest := []) (tX0_copyOf a1 μ) (by decide) (by decide +kernel) lk_0_29 yv_X0_copyOf rfl (by decide) rfl rfl rfl (Nat.le_of_ble_eq_true rfl) (fun x1 μ2 => ?_)
    refine sBk (lo' := [(3, vr 5 x1), (0, vr 1 0), (1, vr 5 a1), (2, vi a2)]) (st' := [vi a2, vr 5 x1]) (μ' := μ2) (pc' := 8) [(.astore_n 3, 0, 0, 0, 0), (.aload_n 3, 0, 0, 0, 0), (.iload_n 2, 0, 0, 0, 0)] (by decide +kernel) rfl rfl ?_
    refine sCvI (oA 5) rfl (ci := 4) (q := (5, x1)) (avs := [vi a2]) (rest := []) (tX4_passHours x1 a2 μ2) (by decide) (by decide +kernel) lk_0_33 yv_X4_passHours rfl (by decide) rfl rfl rfl (Nat.le_of_ble_eq_true rfl) (fun x3 μ4 => ?_)
    refine sBk (lo' := [(3, vr 5 x1), (0, vr 1 0), (1, vr 5 a1), (2, vi a2)]) (st' := [vr 5 x1]) (μ' := μ4) (pc' := 13) [(.pop, 0, 0, 0, 0), (.aload_n 3, 0, 0, 0, 0)] (by decide +kernel) rfl rfl ?_
    exact sRa (by decide +kernel)
/-! ClockRiver$Ahead.hoursTillDry -/
def X0_hoursTillDry_L9 : Nat → Int32 → Nat → Int32 → sM → Option (Int32 × sM)
  | 0, _, _, _, _ => none
  | n + 1, v2, v3, v4, μ =>
    if 500 < v4 then
      some ((-1), μ)
    else
      if inb v2 6 = true then
        if (rI μ 31 v3 (ix v2)) = 0 then
          some (v4, μ)
        else
          bI (X4_passHour v3 μ) fun x1 μ2 =>
            X0_hoursTillDry_L9 n v2 v3 (v4 + 1) μ2
      else none
theorem X0_hoursTillDry_L9_ok : ∀ (n : Nat) (v2 : Int32) (v3 : Nat) (v4 : Int32) (μ : sM), sOk 0 cX0_hoursTillDry 5 4 false 9 [(2, vi v2), (3, vr 5 v3), (4, vi v4)] [] μ (oI (X0_hoursTillDry_L9 n v2 v3 v4 μ)) := by
  intro n
  induction n with
  | zero =>
    intros
    exact sNo
  | succ n ih =>
    intro v2 v3 v4 μ
    unfold X0_hoursTillDry_L9
    refine sBk (lo' := [(2, vi v2), (3, vr 5 v3), (4, vi v4)]) (st' := [vi 500, vi v4]) (μ' := μ) (pc' := 14) [(.iload 4, 0, 0, 0, 0), (.sipush 500, 0, 0, 500, 0)] (by decide +kernel) rfl rfl ?_
    refine sIc_gt oI (off := 29) (tgt := 43) (by decide +kernel) (by decide) (fun _ => ?_) (fun _ => ?_)
    · refine sBk (lo' := [(2, vi v2), (3, vr 5 v3), (4, vi v4)]) (st' := [vi (-1)]) (μ' := μ) (pc' := 44) [(.iconst (-1), 0, 0, (-1), 0)] (by decide +kernel) rfl rfl ?_
      exact sRi (by decide +kernel) (fun h => by cases h)
    · refine sBk (lo' := [(2, vi v2), (3, vr 5 v3), (4, vi v4)]) (st' := [vi v2, vr 31 v3]) (μ' := μ) (pc' := 25) [(.aload_n 3, 0, 0, 0, 0), (.getfield 37, 4, 8, 0, 0), (.getfield 41, 3, 4, 0, 0), (.iload_n 2, 0, 0, 0, 0)] (by decide +kernel) rfl rfl ?_
      refine sS_ial oI rfl (n := 6) (j := (ix v2)) (by decide +kernel) rfl rfl rfl (fun _ => ?_)
      refine sIf_ne oI (off := 6) (tgt := 32) (by decide +kernel) (by decide) (fun _ => ?_) (fun _ => ?_)
      · refine sBk (lo' := [(2, vi v2), (3, vr 5 v3), (4, vi v4)]) (st' := [vr 5 v3]) (μ' := μ) (pc' := 33) [(.aload_n 3, 0, 0, 0, 0)] (by decide +kernel) rfl rfl ?_
        refine sCvI oI rfl (ci := 4) (q := (5, v3)) (avs := []) (rest := []) (tX4_passHour v3 μ) (by decide) (by decide +kernel) lk_0_46 yv_X4_passHour rfl (by decide) rfl rfl rfl (Nat.le_of_ble_eq_true rfl) (fun x1 μ2 => ?_)
        refine sBk (lo' := [(4, vi (v4 + 1)), (2, vi v2), (3, vr 5 v3)]) (st' := []) (μ' := μ2) (pc' := 40) [(.pop, 0, 0, 0, 0), (.iinc 4 1, 0, 0, 1, 0)] (by decide +kernel) rfl rfl ?_
        refine sGt (off := (-31)) (tgt := 9) (by decide +kernel) (by decide) ?_
        refine sWk (lo' := [(2, vi v2), (3, vr 5 v3), (4, vi (v4 + 1))]) [1, 2, 0] rfl ?_
        exact ih v2 v3 (v4 + 1) μ2
      · refine sBk (lo' := [(2, vi v2), (3, vr 5 v3), (4, vi v4)]) (st' := [vi v4]) (μ' := μ) (pc' := 31) [(.iload 4, 0, 0, 0, 0)] (by decide +kernel) rfl rfl ?_
        exact sRi (by decide +kernel) (fun h => by cases h)
def X0_hoursTillDry (a1 : Nat) (a2 : Int32) (μ : sM) : Option (Int32 × sM) :=
  bA (X0_copyOf a1 μ) fun x1 μ2 =>
    X0_hoursTillDry_L9 fuN a2 x1 0 μ2
theorem tX0_hoursTillDry (a1 : Nat) (a2 : Int32) (μ : sM) : sMt yX0_hoursTillDry cX0_hoursTillDry 5 (some .int) 4 [vr 1 0, vr 5 a1, vi a2] μ (oI (X0_hoursTillDry a1 a2 μ)) := by
  refine sMt_of (own := 0) (bl := false) (by decide +kernel) rfl (Nat.le_of_ble_eq_true rfl) (fun r ρ h => ?_) ?_
  · obtain ⟨q, -, hq⟩ := Option.map_eq_some_iff.mp h
    cases hq
    exact Or.inl rfl
  · unfold X0_hoursTillDry
    show sOk 0 cX0_hoursTillDry 5 4 false 0 [(0, vr 1 0), (1, vr 5 a1), (2, vi a2)] [] μ _
    refine sBk (lo' := [(0, vr 1 0), (1, vr 5 a1), (2, vi a2)]) (st' := [vr 5 a1, vr 1 0]) (μ' := μ) (pc' := 2) [(.aload_n 0, 0, 0, 0, 0), (.aload_n 1, 0, 0, 0, 0)] (by decide +kernel) rfl rfl ?_
    refine sCvA oI rfl (ci := 0) (q := (1, 0)) (avs := [vr 5 a1]) (rest := []) (tX0_copyOf a1 μ) (by decide) (by decide +kernel) lk_0_29 yv_X0_copyOf rfl (by decide) rfl rfl rfl (Nat.le_of_ble_eq_true rfl) (fun x1 μ2 => ?_)
    refine sBk (lo' := [(4, vi 0), (3, vr 5 x1), (0, vr 1 0), (1, vr 5 a1), (2, vi a2)]) (st' := []) (μ' := μ2) (pc' := 9) [(.astore_n 3, 0, 0, 0, 0), (.iconst 0, 0, 0, 0, 0), (.istore 4, 0, 0, 0, 0)] (by decide +kernel) rfl rfl ?_
    refine sWk (lo' := [(2, vi a2), (3, vr 5 x1), (4, vi 0)]) [4, 1, 0] rfl ?_
    exact X0_hoursTillDry_L9_ok fuN a2 x1 0 μ2
/-! ClockRiver$Ahead.hoursTillFlood -/
def X0_hoursTillFlood_L9 : Nat → Int32 → Nat → Int32 → sM → Option (Int32 × sM)
  | 0, _, _, _, _ => none
  | n + 1, v2, v3, v4, μ =>
    if 500 ≤ v4 then
      some ((-1), μ)
    else
      bI (X4_passHour v3 μ) fun x1 μ2 =>
        if inb v2 6 = true then
          if (rI μ2 33 v3 (ix v2)) ≤ 0 then
            X0_hoursTillFlood_L9 n v2 v3 (v4 + 1) μ2
          else
            some (v4, μ2)
        else none
theorem X0_hoursTillFlood_L9_ok : ∀ (n : Nat) (v2 : Int32) (v3 : Nat) (v4 : Int32) (μ : sM), sOk 0 cX0_hoursTillFlood 5 4 false 9 [(2, vi v2), (3, vr 5 v3), (4, vi v4)] [] μ (oI (X0_hoursTillFlood_L9 n v2 v3 v4 μ)) := by
  intro n
  induction n with
  | zero =>
    intros
    exact sNo
  | succ n ih =>
    intro v2 v3 v4 μ
    unfold X0_hoursTillFlood_L9
    refine sBk (lo' := [(2, vi v2), (3, vr 5 v3), (4, vi v4)]) (st' := [vi 500, vi v4]) (μ' := μ) (pc' := 14) [(.iload 4, 0, 0, 0, 0), (.sipush 500, 0, 0, 500, 0)] (by decide +kernel) rfl rfl ?_
    refine sIc_ge oI (off := 29) (tgt := 43) (by decide +kernel) (by decide) (fun _ => ?_) (fun _ => ?_)
    · refine sBk (lo' := [(2, vi v2), (3, vr 5 v3), (4, vi v4)]) (st' := [vi (-1)]) (μ' := μ) (pc' := 44) [(.iconst (-1), 0, 0, (-1), 0)] (by decide +kernel) rfl rfl ?_
      exact sRi (by decide +kernel) (fun h => by cases h)
    · refine sBk (lo' := [(2, vi v2), (3, vr 5 v3), (4, vi v4)]) (st' := [vr 5 v3]) (μ' := μ) (pc' := 18) [(.aload_n 3, 0, 0, 0, 0)] (by decide +kernel) rfl rfl ?_
      refine sCvI oI rfl (ci := 4) (q := (5, v3)) (avs := []) (rest := []) (tX4_passHour v3 μ) (by decide) (by decide +kernel) lk_0_46 yv_X4_passHour rfl (by decide) rfl rfl rfl (Nat.le_of_ble_eq_true rfl) (fun x1 μ2 => ?_)
      refine sBk (lo' := [(2, vi v2), (3, vr 5 v3), (4, vi v4)]) (st' := [vi v2, vr 33 v3]) (μ' := μ2) (pc' := 30) [(.pop, 0, 0, 0, 0), (.aload_n 3, 0, 0, 0, 0), (.getfield 37, 4, 8, 0, 0), (.getfield 50, 3, 6, 0, 0), (.iload_n 2, 0, 0, 0, 0)] (by decide +kernel) rfl rfl ?_
      refine sS_ial oI rfl (n := 6) (j := (ix v2)) (by decide +kernel) rfl rfl rfl (fun _ => ?_)
      refine sIf_le oI (off := 6) (tgt := 37) (by decide +kernel) (by decide) (fun _ => ?_) (fun _ => ?_)
      · refine sBk (lo' := [(4, vi (v4 + 1)), (2, vi v2), (3, vr 5 v3)]) (st' := []) (μ' := μ2) (pc' := 40) [(.iinc 4 1, 0, 0, 1, 0)] (by decide +kernel) rfl rfl ?_
        refine sGt (off := (-31)) (tgt := 9) (by decide +kernel) (by decide) ?_
        refine sWk (lo' := [(2, vi v2), (3, vr 5 v3), (4, vi (v4 + 1))]) [1, 2, 0] rfl ?_
        exact ih v2 v3 (v4 + 1) μ2
      · refine sBk (lo' := [(2, vi v2), (3, vr 5 v3), (4, vi v4)]) (st' := [vi v4]) (μ' := μ2) (pc' := 36) [(.iload 4, 0, 0, 0, 0)] (by decide +kernel) rfl rfl ?_
        exact sRi (by decide +kernel) (fun h => by cases h)
def X0_hoursTillFlood (a1 : Nat) (a2 : Int32) (μ : sM) : Option (Int32 × sM) :=
  bA (X0_copyOf a1 μ) fun x1 μ2 =>
    X0_hoursTillFlood_L9 fuN a2 x1 0 μ2
theorem tX0_hoursTillFlood (a1 : Nat) (a2 : Int32) (μ : sM) : sMt yX0_hoursTillFlood cX0_hoursTillFlood 5 (some .int) 4 [vr 1 0, vr 5 a1, vi a2] μ (oI (X0_hoursTillFlood a1 a2 μ)) := by
  refine sMt_of (own := 0) (bl := false) (by decide +kernel) rfl (Nat.le_of_ble_eq_true rfl) (fun r ρ h => ?_) ?_
  · obtain ⟨q, -, hq⟩ := Option.map_eq_some_iff.mp h
    cases hq
    exact Or.inl rfl
  · unfold X0_hoursTillFlood
    show sOk 0 cX0_hoursTillFlood 5 4 false 0 [(0, vr 1 0), (1, vr 5 a1), (2, vi a2)] [] μ _
    refine sBk (lo' := [(0, vr 1 0), (1, vr 5 a1), (2, vi a2)]) (st' := [vr 5 a1, vr 1 0]) (μ' := μ) (pc' := 2) [(.aload_n 0, 0, 0, 0, 0), (.aload_n 1, 0, 0, 0, 0)] (by decide +kernel) rfl rfl ?_
    refine sCvA oI rfl (ci := 0) (q := (1, 0)) (avs := [vr 5 a1]) (rest := []) (tX0_copyOf a1 μ) (by decide) (by decide +kernel) lk_0_29 yv_X0_copyOf rfl (by decide) rfl rfl rfl (Nat.le_of_ble_eq_true rfl) (fun x1 μ2 => ?_)
    refine sBk (lo' := [(4, vi 0), (3, vr 5 x1), (0, vr 1 0), (1, vr 5 a1), (2, vi a2)]) (st' := []) (μ' := μ2) (pc' := 9) [(.astore_n 3, 0, 0, 0, 0), (.iconst 0, 0, 0, 0, 0), (.istore 4, 0, 0, 0, 0)] (by decide +kernel) rfl rfl ?_
    refine sWk (lo' := [(2, vi a2), (3, vr 5 x1), (4, vi 0)]) [4, 1, 0] rfl ?_
    exact X0_hoursTillFlood_L9_ok fuN a2 x1 0 μ2
/-! ClockRiver$Ahead.hoursTillStill -/
def X0_hoursTillStill_L8 : Nat → Nat → Int32 → sM → Option (Int32 × sM)
  | 0, _, _, _ => none
  | n + 1, v2, v3, μ =>
    if 60 < v3 then
      some ((-1), μ)
    else
      if (rI μ 5 v2 0) = 0 then
        some (v3, μ)
      else
        bI (X4_passHour v2 μ) fun x1 μ2 =>
          X0_hoursTillStill_L8 n v2 (v3 + 1) μ2
theorem X0_hoursTillStill_L8_ok : ∀ (n : Nat) (v2 : Nat) (v3 : Int32) (μ : sM), sOk 0 cX0_hoursTillStill 4 4 false 8 [(2, vr 5 v2), (3, vi v3)] [] μ (oI (X0_hoursTillStill_L8 n v2 v3 μ)) := by
  intro n
  induction n with
  | zero =>
    intros
    exact sNo
  | succ n ih =>
    intro v2 v3 μ
    unfold X0_hoursTillStill_L8
    refine sBk (lo' := [(2, vr 5 v2), (3, vi v3)]) (st' := [vi 60, vi v3]) (μ' := μ) (pc' := 11) [(.iload_n 3, 0, 0, 0, 0), (.bipush 60, 0, 0, 60, 0)] (by decide +kernel) rfl rfl ?_
    refine sIc_gt oI (off := 23) (tgt := 34) (by decide +kernel) (by decide) (fun _ => ?_) (fun _ => ?_)
    · refine sBk (lo' := [(2, vr 5 v2), (3, vi v3)]) (st' := [vi (-1)]) (μ' := μ) (pc' := 35) [(.iconst (-1), 0, 0, (-1), 0)] (by decide +kernel) rfl rfl ?_
      exact sRi (by decide +kernel) (fun h => by cases h)
    · refine sBk (lo' := [(2, vr 5 v2), (3, vi v3)]) (st' := [vi (rI μ 5 v2 0)]) (μ' := μ) (pc' := 18) [(.aload_n 2, 0, 0, 0, 0), (.getfield 53, 4, 0, 0, 0)] (by decide +kernel) rfl rfl ?_
      refine sIf_ne oI (off := 5) (tgt := 23) (by decide +kernel) (by decide) (fun _ => ?_) (fun _ => ?_)
      · refine sBk (lo' := [(2, vr 5 v2), (3, vi v3)]) (st' := [vr 5 v2]) (μ' := μ) (pc' := 24) [(.aload_n 2, 0, 0, 0, 0)] (by decide +kernel) rfl rfl ?_
        refine sCvI oI rfl (ci := 4) (q := (5, v2)) (avs := []) (rest := []) (tX4_passHour v2 μ) (by decide) (by decide +kernel) lk_0_46 yv_X4_passHour rfl (by decide) rfl rfl rfl (Nat.le_of_ble_eq_true rfl) (fun x1 μ2 => ?_)
        refine sBk (lo' := [(3, vi (v3 + 1)), (2, vr 5 v2)]) (st' := []) (μ' := μ2) (pc' := 31) [(.pop, 0, 0, 0, 0), (.iinc 3 1, 0, 0, 1, 0)] (by decide +kernel) rfl rfl ?_
        refine sGt (off := (-23)) (tgt := 8) (by decide +kernel) (by decide) ?_
        refine sWk (lo' := [(2, vr 5 v2), (3, vi (v3 + 1))]) [1, 0] rfl ?_
        exact ih v2 (v3 + 1) μ2
      · refine sBk (lo' := [(2, vr 5 v2), (3, vi v3)]) (st' := [vi v3]) (μ' := μ) (pc' := 22) [(.iload_n 3, 0, 0, 0, 0)] (by decide +kernel) rfl rfl ?_
        exact sRi (by decide +kernel) (fun h => by cases h)
def X0_hoursTillStill (a1 : Nat) (μ : sM) : Option (Int32 × sM) :=
  bA (X0_copyOf a1 μ) fun x1 μ2 =>
    X0_hoursTillStill_L8 fuN x1 0 μ2
theorem tX0_hoursTillStill (a1 : Nat) (μ : sM) : sMt yX0_hoursTillStill cX0_hoursTillStill 4 (some .int) 4 [vr 1 0, vr 5 a1] μ (oI (X0_hoursTillStill a1 μ)) := by
  refine sMt_of (own := 0) (bl := false) (by decide +kernel) rfl (Nat.le_of_ble_eq_true rfl) (fun r ρ h => ?_) ?_
  · obtain ⟨q, -, hq⟩ := Option.map_eq_some_iff.mp h
    cases hq
    exact Or.inl rfl
  · unfold X0_hoursTillStill
    show sOk 0 cX0_hoursTillStill 4 4 false 0 [(0, vr 1 0), (1, vr 5 a1)] [] μ _
    refine sBk (lo' := [(0, vr 1 0), (1, vr 5 a1)]) (st' := [vr 5 a1, vr 1 0]) (μ' := μ) (pc' := 2) [(.aload_n 0, 0, 0, 0, 0), (.aload_n 1, 0, 0, 0, 0)] (by decide +kernel) rfl rfl ?_
    refine sCvA oI rfl (ci := 0) (q := (1, 0)) (avs := [vr 5 a1]) (rest := []) (tX0_copyOf a1 μ) (by decide) (by decide +kernel) lk_0_29 yv_X0_copyOf rfl (by decide) rfl rfl rfl (Nat.le_of_ble_eq_true rfl) (fun x1 μ2 => ?_)
    refine sBk (lo' := [(3, vi 0), (2, vr 5 x1), (0, vr 1 0), (1, vr 5 a1)]) (st' := []) (μ' := μ2) (pc' := 8) [(.astore_n 2, 0, 0, 0, 0), (.iconst 0, 0, 0, 0, 0), (.istore_n 3, 0, 0, 0, 0)] (by decide +kernel) rfl rfl ?_
    refine sWk (lo' := [(2, vr 5 x1), (3, vi 0)]) [1, 0] rfl ?_
    exact X0_hoursTillStill_L8_ok fuN x1 0 μ2
/-! ClockRiver$Ahead.leastTurns -/
def X0_leastTurns_L3 : Nat → Nat → Int32 → Int32 → Int32 → Int32 → sM → Option (Int32 × sM)
  | 0, _, _, _, _, _, _ => none
  | n + 1, v1, v2, v3, v4, v5, μ =>
    if 60 < v5 then
      some ((-1), μ)
    else
      bA (X0_copyOf v1 μ) fun x1 μ2 =>
        bI (X4_passHours x1 v3 (wI μ2 5 x1 0 v5)) fun x3 μ4 =>
          if inb v2 6 = true then
            if inb v2 6 = true then
              if ((rI μ4 27 x1 (ix v2)) - (rI μ4 27 v1 (ix v2))) < v4 then
                X0_leastTurns_L3 n v1 v2 v3 v4 (v5 + 1) μ4
              else
                some (v5, μ4)
            else none
          else none
theorem X0_leastTurns_L3_ok : ∀ (n : Nat) (v1 : Nat) (v2 : Int32) (v3 : Int32) (v4 : Int32) (v5 : Int32) (μ : sM), sOk 0 cX0_leastTurns 7 4 false 3 [(0, vr 1 0), (1, vr 5 v1), (2, vi v2), (3, vi v3), (4, vi v4), (5, vi v5)] [] μ (oI (X0_leastTurns_L3 n v1 v2 v3 v4 v5 μ)) := by
  intro n
  induction n with
  | zero =>
    intros
    exact sNo
  | succ n ih =>
    intro v1 v2 v3 v4 v5 μ
    unfold X0_leastTurns_L3
    refine sBk (lo' := [(0, vr 1 0), (1, vr 5 v1), (2, vi v2), (3, vi v3), (4, vi v4), (5, vi v5)]) (st' := [vi 60, vi v5]) (μ' := μ) (pc' := 7) [(.iload 5, 0, 0, 0, 0), (.bipush 60, 0, 0, 60, 0)] (by decide +kernel) rfl rfl ?_
    refine sIc_gt oI (off := 58) (tgt := 65) (by decide +kernel) (by decide) (fun _ => ?_) (fun _ => ?_)
    · refine sBk (lo' := [(0, vr 1 0), (1, vr 5 v1), (2, vi v2), (3, vi v3), (4, vi v4), (5, vi v5)]) (st' := [vi (-1)]) (μ' := μ) (pc' := 66) [(.iconst (-1), 0, 0, (-1), 0)] (by decide +kernel) rfl rfl ?_
      exact sRi (by decide +kernel) (fun h => by cases h)
    · refine sBk (lo' := [(0, vr 1 0), (1, vr 5 v1), (2, vi v2), (3, vi v3), (4, vi v4), (5, vi v5)]) (st' := [vr 5 v1, vr 1 0]) (μ' := μ) (pc' := 12) [(.aload_n 0, 0, 0, 0, 0), (.aload_n 1, 0, 0, 0, 0)] (by decide +kernel) rfl rfl ?_
      refine sCvA oI rfl (ci := 0) (q := (1, 0)) (avs := [vr 5 v1]) (rest := []) (tX0_copyOf v1 μ) (by decide) (by decide +kernel) lk_0_29 yv_X0_copyOf rfl (by decide) rfl rfl rfl (Nat.le_of_ble_eq_true rfl) (fun x1 μ2 => ?_)
      refine sBk (lo' := [(6, vr 5 x1), (0, vr 1 0), (1, vr 5 v1), (2, vi v2), (3, vi v3), (4, vi v4), (5, vi v5)]) (st' := [vi v3, vr 5 x1]) (μ' := wI μ2 5 x1 0 v5) (pc' := 27) [(.astore 6, 0, 0, 0, 0), (.aload 6, 0, 0, 0, 0), (.iload 5, 0, 0, 0, 0), (.putfield 53, 4, 0, 0, 0), (.aload 6, 0, 0, 0, 0), (.iload_n 3, 0, 0, 0, 0)] (by decide +kernel) rfl rfl ?_
      refine sCvI oI rfl (ci := 4) (q := (5, x1)) (avs := [vi v3]) (rest := []) (tX4_passHours x1 v3 (wI μ2 5 x1 0 v5)) (by decide) (by decide +kernel) lk_0_33 yv_X4_passHours rfl (by decide) rfl rfl rfl (Nat.le_of_ble_eq_true rfl) (fun x3 μ4 => ?_)
      refine sBk (lo' := [(6, vr 5 x1), (0, vr 1 0), (1, vr 5 v1), (2, vi v2), (3, vi v3), (4, vi v4), (5, vi v5)]) (st' := [vi v2, vr 27 x1]) (μ' := μ4) (pc' := 40) [(.pop, 0, 0, 0, 0), (.aload 6, 0, 0, 0, 0), (.getfield 57, 4, 9, 0, 0), (.getfield 61, 2, 4, 0, 0), (.iload_n 2, 0, 0, 0, 0)] (by decide +kernel) rfl rfl ?_
      refine sS_ial oI rfl (n := 6) (j := (ix v2)) (by decide +kernel) rfl rfl rfl (fun _ => ?_)
      refine sBk (lo' := [(6, vr 5 x1), (0, vr 1 0), (1, vr 5 v1), (2, vi v2), (3, vi v3), (4, vi v4), (5, vi v5)]) (st' := [vi v2, vr 27 v1, vi (rI μ4 27 x1 (ix v2))]) (μ' := μ4) (pc' := 49) [(.aload_n 1, 0, 0, 0, 0), (.getfield 57, 4, 9, 0, 0), (.getfield 61, 2, 4, 0, 0), (.iload_n 2, 0, 0, 0, 0)] (by decide +kernel) rfl rfl ?_
      refine sS_ial oI rfl (n := 6) (j := (ix v2)) (by decide +kernel) rfl rfl rfl (fun _ => ?_)
      refine sBk (lo' := [(6, vr 5 x1), (0, vr 1 0), (1, vr 5 v1), (2, vi v2), (3, vi v3), (4, vi v4), (5, vi v5)]) (st' := [vi v4, vi ((rI μ4 27 x1 (ix v2)) - (rI μ4 27 v1 (ix v2)))]) (μ' := μ4) (pc' := 53) [(.isub, 0, 0, 0, 0), (.iload 4, 0, 0, 0, 0)] (by decide +kernel) rfl rfl ?_
      refine sIc_lt oI (off := 6) (tgt := 59) (by decide +kernel) (by decide) (fun _ => ?_) (fun _ => ?_)
      · refine sBk (lo' := [(5, vi (v5 + 1)), (6, vr 5 x1), (0, vr 1 0), (1, vr 5 v1), (2, vi v2), (3, vi v3), (4, vi v4)]) (st' := []) (μ' := μ4) (pc' := 62) [(.iinc 5 1, 0, 0, 1, 0)] (by decide +kernel) rfl rfl ?_
        refine sGt (off := (-59)) (tgt := 3) (by decide +kernel) (by decide) ?_
        refine sWk (lo' := [(0, vr 1 0), (1, vr 5 v1), (2, vi v2), (3, vi v3), (4, vi v4), (5, vi (v5 + 1))]) [2, 3, 4, 5, 6, 0] rfl ?_
        exact ih v1 v2 v3 v4 (v5 + 1) μ4
      · refine sBk (lo' := [(6, vr 5 x1), (0, vr 1 0), (1, vr 5 v1), (2, vi v2), (3, vi v3), (4, vi v4), (5, vi v5)]) (st' := [vi v5]) (μ' := μ4) (pc' := 58) [(.iload 5, 0, 0, 0, 0)] (by decide +kernel) rfl rfl ?_
        exact sRi (by decide +kernel) (fun h => by cases h)
def X0_leastTurns (a1 : Nat) (a2 : Int32) (a3 : Int32) (a4 : Int32) (μ : sM) : Option (Int32 × sM) :=
  X0_leastTurns_L3 fuN a1 a2 a3 a4 0 μ
theorem tX0_leastTurns (a1 : Nat) (a2 : Int32) (a3 : Int32) (a4 : Int32) (μ : sM) : sMt yX0_leastTurns cX0_leastTurns 7 (some .int) 4 [vr 1 0, vr 5 a1, vi a2, vi a3, vi a4] μ (oI (X0_leastTurns a1 a2 a3 a4 μ)) := by
  refine sMt_of (own := 0) (bl := false) (by decide +kernel) rfl (Nat.le_of_ble_eq_true rfl) (fun r ρ h => ?_) ?_
  · obtain ⟨q, -, hq⟩ := Option.map_eq_some_iff.mp h
    cases hq
    exact Or.inl rfl
  · unfold X0_leastTurns
    show sOk 0 cX0_leastTurns 7 4 false 0 [(0, vr 1 0), (1, vr 5 a1), (2, vi a2), (3, vi a3), (4, vi a4)] [] μ _
    refine sBk (lo' := [(5, vi 0), (0, vr 1 0), (1, vr 5 a1), (2, vi a2), (3, vi a3), (4, vi a4)]) (st' := []) (μ' := μ) (pc' := 3) [(.iconst 0, 0, 0, 0, 0), (.istore 5, 0, 0, 0, 0)] (by decide +kernel) rfl rfl ?_
    refine sWk (lo' := [(0, vr 1 0), (1, vr 5 a1), (2, vi a2), (3, vi a3), (4, vi a4), (5, vi 0)]) [1, 2, 3, 4, 5, 0] rfl ?_
    exact X0_leastTurns_L3_ok fuN a1 a2 a3 a4 0 μ
/-! ClockRiver$Ahead.findGate -/
def X0_findGate_J63 (k8 : Nat → Int32 → Int32 → Int32 → sM → Option sM) (v1 : Nat) (v2 : Int32) (v3 : Int32) (v4 : Int32) (μ : sM) : Option sM :=
  k8 v1 v2 v3 (v4 + 1) μ
theorem X0_findGate_J63_ok {k8 : Nat → Int32 → Int32 → Int32 → sM → Option sM} (hk8 : ∀ (v1 : Nat) (v2 : Int32) (v3 : Int32) (v4 : Int32) (μ : sM), sOk 0 cX0_findGate 7 4 false 8 [(0, vr 1 0), (1, vr 5 v1), (2, vi v2), (3, vi v3), (4, vi v4)] [] μ (oV (k8 v1 v2 v3 v4 μ))) (v1 : Nat) (v2 : Int32) (v3 : Int32) (v4 : Int32) (μ : sM) : sOk 0 cX0_findGate 7 4 false 63 [(0, vr 1 0), (1, vr 5 v1), (2, vi v2), (3, vi v3), (4, vi v4)] [] μ (oV (X0_findGate_J63 k8 v1 v2 v3 v4 μ)) := by
  unfold X0_findGate_J63
  refine sBk (lo' := [(4, vi (v4 + 1)), (0, vr 1 0), (1, vr 5 v1), (2, vi v2), (3, vi v3)]) (st' := []) (μ' := μ) (pc' := 66) [(.iinc 4 1, 0, 0, 1, 0)] (by decide +kernel) rfl rfl ?_
  refine sGt (off := (-58)) (tgt := 8) (by decide +kernel) (by decide) ?_
  refine sWk (lo' := [(0, vr 1 0), (1, vr 5 v1), (2, vi v2), (3, vi v3), (4, vi (v4 + 1))]) [1, 2, 3, 4, 0] rfl ?_
  exact hk8 v1 v2 v3 (v4 + 1) μ
def X0_findGate_L8 : Nat → Nat → Int32 → Int32 → Int32 → sM → Option sM
  | 0, _, _, _, _, _ => none
  | n + 1, v1, v2, v3, v4, μ =>
    if 99 < v4 then
      some μ
    else
      bA (X0_copyOf v1 μ) fun x1 μ2 =>
        if inb v2 6 = true then
          bI (X4_passHours x1 v3 (wI μ2 30 x1 (ix v2) v4)) fun x3 μ4 =>
            if x3 ≤ (rI μ4 1 0 2) then
              X0_findGate_J63 (X0_findGate_L8 n) v1 v2 v3 v4 μ4
            else
              X0_findGate_J63 (X0_findGate_L8 n) v1 v2 v3 v4 (wI (wI μ4 1 0 2 x3) 1 0 1 v4)
        else none
theorem X0_findGate_L8_ok : ∀ (n : Nat) (v1 : Nat) (v2 : Int32) (v3 : Int32) (v4 : Int32) (μ : sM), sOk 0 cX0_findGate 7 4 false 8 [(0, vr 1 0), (1, vr 5 v1), (2, vi v2), (3, vi v3), (4, vi v4)] [] μ (oV (X0_findGate_L8 n v1 v2 v3 v4 μ)) := by
  intro n
  induction n with
  | zero =>
    intros
    exact sNo
  | succ n ih =>
    intro v1 v2 v3 v4 μ
    unfold X0_findGate_L8
    refine sBk (lo' := [(0, vr 1 0), (1, vr 5 v1), (2, vi v2), (3, vi v3), (4, vi v4)]) (st' := [vi 99, vi v4]) (μ' := μ) (pc' := 12) [(.iload 4, 0, 0, 0, 0), (.bipush 99, 0, 0, 99, 0)] (by decide +kernel) rfl rfl ?_
    refine sIc_gt oV (off := 57) (tgt := 69) (by decide +kernel) (by decide) (fun _ => ?_) (fun _ => ?_)
    · exact sRv (by decide +kernel)
    · refine sBk (lo' := [(0, vr 1 0), (1, vr 5 v1), (2, vi v2), (3, vi v3), (4, vi v4)]) (st' := [vr 5 v1, vr 1 0]) (μ' := μ) (pc' := 17) [(.aload_n 0, 0, 0, 0, 0), (.aload_n 1, 0, 0, 0, 0)] (by decide +kernel) rfl rfl ?_
      refine sCvA oV rfl (ci := 0) (q := (1, 0)) (avs := [vr 5 v1]) (rest := []) (tX0_copyOf v1 μ) (by decide) (by decide +kernel) lk_0_29 yv_X0_copyOf rfl (by decide) rfl rfl rfl (Nat.le_of_ble_eq_true rfl) (fun x1 μ2 => ?_)
      refine sBk (lo' := [(5, vr 5 x1), (0, vr 1 0), (1, vr 5 v1), (2, vi v2), (3, vi v3), (4, vi v4)]) (st' := [vi v4, vi v2, vr 30 x1]) (μ' := μ2) (pc' := 33) [(.astore 5, 0, 0, 0, 0), (.aload 5, 0, 0, 0, 0), (.getfield 37, 4, 8, 0, 0), (.getfield 69, 3, 3, 0, 0), (.iload_n 2, 0, 0, 0, 0), (.iload 4, 0, 0, 0, 0)] (by decide +kernel) rfl rfl ?_
      refine sS_ias oV rfl (n := 6) (j := (ix v2)) (by decide +kernel) rfl rfl rfl (fun _ => ?_)
      refine sBk (lo' := [(5, vr 5 x1), (0, vr 1 0), (1, vr 5 v1), (2, vi v2), (3, vi v3), (4, vi v4)]) (st' := [vi v3, vr 5 x1]) (μ' := wI μ2 30 x1 (ix v2) v4) (pc' := 37) [(.aload 5, 0, 0, 0, 0), (.iload_n 3, 0, 0, 0, 0)] (by decide +kernel) rfl rfl ?_
      refine sCvI oV rfl (ci := 4) (q := (5, x1)) (avs := [vi v3]) (rest := []) (tX4_passHours x1 v3 (wI μ2 30 x1 (ix v2) v4)) (by decide) (by decide +kernel) lk_0_33 yv_X4_passHours rfl (by decide) rfl rfl rfl (Nat.le_of_ble_eq_true rfl) (fun x3 μ4 => ?_)
      refine sBk (lo' := [(6, vi x3), (5, vr 5 x1), (0, vr 1 0), (1, vr 5 v1), (2, vi v2), (3, vi v3), (4, vi v4)]) (st' := [vi (rI μ4 1 0 2), vi x3]) (μ' := μ4) (pc' := 48) [(.istore 6, 0, 0, 0, 0), (.iload 6, 0, 0, 0, 0), (.aload_n 0, 0, 0, 0, 0), (.getfield 66, 0, 2, 0, 0)] (by decide +kernel) rfl rfl ?_
      refine sIc_le oV (off := 15) (tgt := 63) (by decide +kernel) (by decide) (fun _ => ?_) (fun _ => ?_)
      · refine sWk (lo' := [(0, vr 1 0), (1, vr 5 v1), (2, vi v2), (3, vi v3), (4, vi v4)]) [2, 3, 4, 5, 6] rfl ?_
        exact X0_findGate_J63_ok ih v1 v2 v3 v4 μ4
      · refine sBk (lo' := [(6, vi x3), (5, vr 5 x1), (0, vr 1 0), (1, vr 5 v1), (2, vi v2), (3, vi v3), (4, vi v4)]) (st' := []) (μ' := wI (wI μ4 1 0 2 x3) 1 0 1 v4) (pc' := 63) [(.aload_n 0, 0, 0, 0, 0), (.iload 6, 0, 0, 0, 0), (.putfield 66, 0, 2, 0, 0), (.aload_n 0, 0, 0, 0, 0), (.iload 4, 0, 0, 0, 0), (.putfield 72, 0, 1, 0, 0)] (by decide +kernel) rfl rfl ?_
        refine sWk (lo' := [(0, vr 1 0), (1, vr 5 v1), (2, vi v2), (3, vi v3), (4, vi v4)]) [2, 3, 4, 5, 6] rfl ?_
        exact X0_findGate_J63_ok ih v1 v2 v3 v4 (wI (wI μ4 1 0 2 x3) 1 0 1 v4)
def X0_findGate (a1 : Nat) (a2 : Int32) (a3 : Int32) (μ : sM) : Option sM :=
  X0_findGate_L8 fuN a1 a2 a3 0 (wI μ 1 0 2 (-1))
theorem tX0_findGate (a1 : Nat) (a2 : Int32) (a3 : Int32) (μ : sM) : sMt yX0_findGate cX0_findGate 7 none 4 [vr 1 0, vr 5 a1, vi a2, vi a3] μ (oV (X0_findGate a1 a2 a3 μ)) := by
  refine sMt_of (own := 0) (bl := false) (by decide +kernel) rfl (Nat.le_of_ble_eq_true rfl) (fun r ρ h => ?_) ?_
  · obtain ⟨q, -, hq⟩ := Option.map_eq_some_iff.mp h
    cases hq
    exact rfl
  · unfold X0_findGate
    show sOk 0 cX0_findGate 7 4 false 0 [(0, vr 1 0), (1, vr 5 a1), (2, vi a2), (3, vi a3)] [] μ _
    refine sBk (lo' := [(4, vi 0), (0, vr 1 0), (1, vr 5 a1), (2, vi a2), (3, vi a3)]) (st' := []) (μ' := wI μ 1 0 2 (-1)) (pc' := 8) [(.aload_n 0, 0, 0, 0, 0), (.iconst (-1), 0, 0, (-1), 0), (.putfield 66, 0, 2, 0, 0), (.iconst 0, 0, 0, 0, 0), (.istore 4, 0, 0, 0, 0)] (by decide +kernel) rfl rfl ?_
    refine sWk (lo' := [(0, vr 1 0), (1, vr 5 a1), (2, vi a2), (3, vi a3), (4, vi 0)]) [1, 2, 3, 4, 0] rfl ?_
    exact X0_findGate_L8_ok fuN a1 a2 a3 0 (wI μ 1 0 2 (-1))
/-! ClockRiver$Ahead.tryHands -/
def X0_tryHands_J203 (rec : Int32 → Int32 → Int32 → sM → Option sM) (k105 : Int32 → Int32 → Int32 → Nat → Int32 → sM → Option sM) (v1 : Int32) (v2 : Int32) (v3 : Int32) (v5 : Nat) (v6 : Int32) (v8 : Nat) (s0 : Int32) (μ : sM) : Option sM :=
  bI (X4_passHours v8 4 μ) fun x1 μ2 =>
    bV (rec (v1 + 1) s0 (v3 + x1) μ2) fun μ4 =>
      k105 v1 v2 v3 v5 (v6 + 1) μ4
theorem X0_tryHands_J203_ok {rec : Int32 → Int32 → Int32 → sM → Option sM} {d0 : Nat} (hd : 3 ≤ d0) (hrec : ∀ (a1 : Int32) (a2 : Int32) (a3 : Int32) (μ : sM), sMt yX0_tryHands cX0_tryHands 10 none d0 [vr 1 0, vi a1, vi a2, vi a3] μ (oV (rec a1 a2 a3 μ))) {k105 : Int32 → Int32 → Int32 → Nat → Int32 → sM → Option sM} (hk105 : ∀ (v1 : Int32) (v2 : Int32) (v3 : Int32) (v5 : Nat) (v6 : Int32) (μ : sM), sOk 0 cX0_tryHands 10 (d0 + 1) false 105 [(0, vr 1 0), (1, vi v1), (2, vi v2), (3, vi v3), (5, vr 11 v5), (6, vi v6)] [] μ (oV (k105 v1 v2 v3 v5 v6 μ))) (v1 : Int32) (v2 : Int32) (v3 : Int32) (v5 : Nat) (v6 : Int32) (v8 : Nat) (s0 : Int32) (μ : sM) : sOk 0 cX0_tryHands 10 (d0 + 1) false 203 [(0, vr 1 0), (1, vi v1), (2, vi v2), (3, vi v3), (5, vr 11 v5), (6, vi v6), (8, vr 5 v8)] [vi s0] μ (oV (X0_tryHands_J203 rec k105 v1 v2 v3 v5 v6 v8 s0 μ)) := by
  unfold X0_tryHands_J203
  refine sBk (lo' := [(9, vi s0), (0, vr 1 0), (1, vi v1), (2, vi v2), (3, vi v3), (5, vr 11 v5), (6, vi v6), (8, vr 5 v8)]) (st' := [vi 4, vr 5 v8, vi v3, vi s0, vi (v1 + 1), vr 1 0]) (μ' := μ) (pc' := 215) [(.istore 9, 0, 0, 0, 0), (.aload_n 0, 0, 0, 0, 0), (.iload_n 1, 0, 0, 0, 0), (.iconst 1, 0, 0, 1, 0), (.iadd, 0, 0, 0, 0), (.iload 9, 0, 0, 0, 0), (.iload_n 3, 0, 0, 0, 0), (.aload 8, 0, 0, 0, 0), (.iconst 4, 0, 0, 4, 0)] (by decide +kernel) rfl rfl ?_
  refine sCvI oV rfl (ci := 4) (q := (5, v8)) (avs := [vi 4]) (rest := [vi v3, vi s0, vi (v1 + 1), vr 1 0]) (tX4_passHours v8 4 μ) (by omega) (by decide +kernel) lk_0_33 yv_X4_passHours rfl (by decide) rfl rfl rfl (Nat.le_of_ble_eq_true rfl) (fun x1 μ2 => ?_)
  refine sBk (lo' := [(9, vi s0), (0, vr 1 0), (1, vi v1), (2, vi v2), (3, vi v3), (5, vr 11 v5), (6, vi v6), (8, vr 5 v8)]) (st' := [vi (v3 + x1), vi s0, vi (v1 + 1), vr 1 0]) (μ' := μ2) (pc' := 219) [(.iadd, 0, 0, 0, 0)] (by decide +kernel) rfl rfl ?_
  refine sCvV oV rfl (ci := 0) (q := (1, 0)) (avs := [vi (v1 + 1), vi s0, vi (v3 + x1)]) (rest := []) (hrec (v1 + 1) s0 (v3 + x1) μ2) (by omega) (by decide +kernel) lk_0_90 yv_X0_tryHands rfl (by decide) rfl rfl rfl (Nat.le_of_ble_eq_true rfl) (fun μ4 => ?_)
  refine sBk (lo' := [(6, vi (v6 + 1)), (9, vi s0), (0, vr 1 0), (1, vi v1), (2, vi v2), (3, vi v3), (5, vr 11 v5), (8, vr 5 v8)]) (st' := []) (μ' := μ4) (pc' := 225) [(.iinc 6 1, 0, 0, 1, 0)] (by decide +kernel) rfl rfl ?_
  refine sGt (off := (-120)) (tgt := 105) (by decide +kernel) (by decide) ?_
  refine sWk (lo' := [(0, vr 1 0), (1, vi v1), (2, vi v2), (3, vi v3), (5, vr 11 v5), (6, vi (v6 + 1))]) [2, 3, 4, 5, 6, 0] rfl ?_
  exact hk105 v1 v2 v3 v5 (v6 + 1) μ4
def X0_tryHands_J183 (rec : Int32 → Int32 → Int32 → sM → Option sM) (k105 : Int32 → Int32 → Int32 → Nat → Int32 → sM → Option sM) (v1 : Int32) (v2 : Int32) (v3 : Int32) (v5 : Nat) (v6 : Int32) (v7 : Int32) (v8 : Nat) (s0 : Int32) (s1 : Int32) (μ : sM) : Option sM :=
  if inb s1 4 = true then
    if v7 = 0 then
      X0_tryHands_J203 rec k105 v1 v2 v3 v5 v6 v8 v2 (wI μ 22 0 (ix s1) s0)
    else
      if inb v6 6 = true then
        X0_tryHands_J203 rec k105 v1 v2 v3 v5 v6 v8 (v2 + (rI μ 52 v5 (ix v6))) (wI μ 22 0 (ix s1) s0)
      else none
  else none
theorem X0_tryHands_J183_ok {rec : Int32 → Int32 → Int32 → sM → Option sM} {d0 : Nat} (hd : 3 ≤ d0) (hrec : ∀ (a1 : Int32) (a2 : Int32) (a3 : Int32) (μ : sM), sMt yX0_tryHands cX0_tryHands 10 none d0 [vr 1 0, vi a1, vi a2, vi a3] μ (oV (rec a1 a2 a3 μ))) {k105 : Int32 → Int32 → Int32 → Nat → Int32 → sM → Option sM} (hk105 : ∀ (v1 : Int32) (v2 : Int32) (v3 : Int32) (v5 : Nat) (v6 : Int32) (μ : sM), sOk 0 cX0_tryHands 10 (d0 + 1) false 105 [(0, vr 1 0), (1, vi v1), (2, vi v2), (3, vi v3), (5, vr 11 v5), (6, vi v6)] [] μ (oV (k105 v1 v2 v3 v5 v6 μ))) (v1 : Int32) (v2 : Int32) (v3 : Int32) (v5 : Nat) (v6 : Int32) (v7 : Int32) (v8 : Nat) (s0 : Int32) (s1 : Int32) (μ : sM) : sOk 0 cX0_tryHands 10 (d0 + 1) false 183 [(0, vr 1 0), (1, vi v1), (2, vi v2), (3, vi v3), (5, vr 11 v5), (6, vi v6), (7, vi v7), (8, vr 5 v8)] [vi s0, vi s1, vr 22 0] μ (oV (X0_tryHands_J183 rec k105 v1 v2 v3 v5 v6 v7 v8 s0 s1 μ)) := by
  unfold X0_tryHands_J183
  refine sS_ias oV rfl (n := 4) (j := (ix s1)) (by decide +kernel) rfl rfl rfl (fun _ => ?_)
  refine sBk (lo' := [(0, vr 1 0), (1, vi v1), (2, vi v2), (3, vi v3), (5, vr 11 v5), (6, vi v6), (7, vi v7), (8, vr 5 v8)]) (st' := [vi v7]) (μ' := wI μ 22 0 (ix s1) s0) (pc' := 186) [(.iload 7, 0, 0, 0, 0)] (by decide +kernel) rfl rfl ?_
  refine sIf_eq oV (off := 16) (tgt := 202) (by decide +kernel) (by decide) (fun _ => ?_) (fun _ => ?_)
  · refine sBk (lo' := [(0, vr 1 0), (1, vi v1), (2, vi v2), (3, vi v3), (5, vr 11 v5), (6, vi v6), (7, vi v7), (8, vr 5 v8)]) (st' := [vi v2]) (μ' := wI μ 22 0 (ix s1) s0) (pc' := 203) [(.iload_n 2, 0, 0, 0, 0)] (by decide +kernel) rfl rfl ?_
    refine sWk (lo' := [(0, vr 1 0), (1, vi v1), (2, vi v2), (3, vi v3), (5, vr 11 v5), (6, vi v6), (8, vr 5 v8)]) [0, 1, 2, 3, 4, 5, 7] rfl ?_
    exact X0_tryHands_J203_ok hd hrec hk105 v1 v2 v3 v5 v6 v8 v2 (wI μ 22 0 (ix s1) s0)
  · refine sBk (lo' := [(0, vr 1 0), (1, vi v1), (2, vi v2), (3, vi v3), (5, vr 11 v5), (6, vi v6), (7, vi v7), (8, vr 5 v8)]) (st' := [vi v6, vr 52 v5, vi v2]) (μ' := wI μ 22 0 (ix s1) s0) (pc' := 197) [(.iload_n 2, 0, 0, 0, 0), (.aload 5, 0, 0, 0, 0), (.getfield 114, 10, 3, 0, 0), (.iload 6, 0, 0, 0, 0)] (by decide +kernel) rfl rfl ?_
    refine sS_ial oV rfl (n := 6) (j := (ix v6)) (by decide +kernel) rfl rfl rfl (fun _ => ?_)
    refine sBk (lo' := [(0, vr 1 0), (1, vi v1), (2, vi v2), (3, vi v3), (5, vr 11 v5), (6, vi v6), (7, vi v7), (8, vr 5 v8)]) (st' := [vi (v2 + (rI μ 52 v5 (ix v6)))]) (μ' := wI μ 22 0 (ix s1) s0) (pc' := 199) [(.iadd, 0, 0, 0, 0)] (by decide +kernel) rfl rfl ?_
    refine sGt (off := 4) (tgt := 203) (by decide +kernel) (by decide) ?_
    refine sWk (lo' := [(0, vr 1 0), (1, vi v1), (2, vi v2), (3, vi v3), (5, vr 11 v5), (6, vi v6), (8, vr 5 v8)]) [0, 1, 2, 3, 4, 5, 7] rfl ?_
    exact X0_tryHands_J203_ok hd hrec hk105 v1 v2 v3 v5 v6 v8 (v2 + (rI μ 52 v5 (ix v6))) (wI μ 22 0 (ix s1) s0)
def X0_tryHands_J166 (rec : Int32 → Int32 → Int32 → sM → Option sM) (k105 : Int32 → Int32 → Int32 → Nat → Int32 → sM → Option sM) (v1 : Int32) (v2 : Int32) (v3 : Int32) (v5 : Nat) (v6 : Int32) (v7 : Int32) (v8 : Nat) (μ : sM) : Option sM :=
  if v7 = 0 then
    X0_tryHands_J183 rec k105 v1 v2 v3 v5 v6 v7 v8 6 v1 μ
  else
    X0_tryHands_J183 rec k105 v1 v2 v3 v5 v6 v7 v8 v6 v1 μ
theorem X0_tryHands_J166_ok {rec : Int32 → Int32 → Int32 → sM → Option sM} {d0 : Nat} (hd : 3 ≤ d0) (hrec : ∀ (a1 : Int32) (a2 : Int32) (a3 : Int32) (μ : sM), sMt yX0_tryHands cX0_tryHands 10 none d0 [vr 1 0, vi a1, vi a2, vi a3] μ (oV (rec a1 a2 a3 μ))) {k105 : Int32 → Int32 → Int32 → Nat → Int32 → sM → Option sM} (hk105 : ∀ (v1 : Int32) (v2 : Int32) (v3 : Int32) (v5 : Nat) (v6 : Int32) (μ : sM), sOk 0 cX0_tryHands 10 (d0 + 1) false 105 [(0, vr 1 0), (1, vi v1), (2, vi v2), (3, vi v3), (5, vr 11 v5), (6, vi v6)] [] μ (oV (k105 v1 v2 v3 v5 v6 μ))) (v1 : Int32) (v2 : Int32) (v3 : Int32) (v5 : Nat) (v6 : Int32) (v7 : Int32) (v8 : Nat) (μ : sM) : sOk 0 cX0_tryHands 10 (d0 + 1) false 166 [(0, vr 1 0), (1, vi v1), (2, vi v2), (3, vi v3), (5, vr 11 v5), (6, vi v6), (7, vi v7), (8, vr 5 v8)] [] μ (oV (X0_tryHands_J166 rec k105 v1 v2 v3 v5 v6 v7 v8 μ)) := by
  unfold X0_tryHands_J166
  refine sBk (lo' := [(0, vr 1 0), (1, vi v1), (2, vi v2), (3, vi v3), (5, vr 11 v5), (6, vi v6), (7, vi v7), (8, vr 5 v8)]) (st' := [vi v7, vi v1, vr 22 0]) (μ' := μ) (pc' := 173) [(.aload_n 0, 0, 0, 0, 0), (.getfield 21, 0, 5, 0, 0), (.iload_n 1, 0, 0, 0, 0), (.iload 7, 0, 0, 0, 0)] (by decide +kernel) rfl rfl ?_
  refine sIf_eq oV (off := 8) (tgt := 181) (by decide +kernel) (by decide) (fun _ => ?_) (fun _ => ?_)
  · refine sBk (lo' := [(0, vr 1 0), (1, vi v1), (2, vi v2), (3, vi v3), (5, vr 11 v5), (6, vi v6), (7, vi v7), (8, vr 5 v8)]) (st' := [vi 6, vi v1, vr 22 0]) (μ' := μ) (pc' := 183) [(.bipush 6, 0, 0, 6, 0)] (by decide +kernel) rfl rfl ?_
    exact X0_tryHands_J183_ok hd hrec hk105 v1 v2 v3 v5 v6 v7 v8 6 v1 μ
  · refine sBk (lo' := [(0, vr 1 0), (1, vi v1), (2, vi v2), (3, vi v3), (5, vr 11 v5), (6, vi v6), (7, vi v7), (8, vr 5 v8)]) (st' := [vi v6, vi v1, vr 22 0]) (μ' := μ) (pc' := 178) [(.iload 6, 0, 0, 0, 0)] (by decide +kernel) rfl rfl ?_
    refine sGt (off := 5) (tgt := 183) (by decide +kernel) (by decide) ?_
    exact X0_tryHands_J183_ok hd hrec hk105 v1 v2 v3 v5 v6 v7 v8 v6 v1 μ
def X0_tryHands_J130 (rec : Int32 → Int32 → Int32 → sM → Option sM) (k105 : Int32 → Int32 → Int32 → Nat → Int32 → sM → Option sM) (v1 : Int32) (v2 : Int32) (v3 : Int32) (v5 : Nat) (v6 : Int32) (s0 : Int32) (μ : sM) : Option sM :=
  if inb (v1 + 1) 5 = true then
    if inb v1 5 = true then
      bV (X4_copyFrom (4 + (ix (v1 + 1))) (4 + (ix v1)) μ) fun μ2 =>
        if s0 = 0 then
          X0_tryHands_J166 rec k105 v1 v2 v3 v5 v6 s0 (4 + (ix (v1 + 1))) μ2
        else
          bV (X4_letWind (4 + (ix (v1 + 1))) v6 0 μ2) fun μ4 =>
            X0_tryHands_J166 rec k105 v1 v2 v3 v5 v6 s0 (4 + (ix (v1 + 1))) μ4
    else none
  else none
theorem X0_tryHands_J130_ok {rec : Int32 → Int32 → Int32 → sM → Option sM} {d0 : Nat} (hd : 3 ≤ d0) (hrec : ∀ (a1 : Int32) (a2 : Int32) (a3 : Int32) (μ : sM), sMt yX0_tryHands cX0_tryHands 10 none d0 [vr 1 0, vi a1, vi a2, vi a3] μ (oV (rec a1 a2 a3 μ))) {k105 : Int32 → Int32 → Int32 → Nat → Int32 → sM → Option sM} (hk105 : ∀ (v1 : Int32) (v2 : Int32) (v3 : Int32) (v5 : Nat) (v6 : Int32) (μ : sM), sOk 0 cX0_tryHands 10 (d0 + 1) false 105 [(0, vr 1 0), (1, vi v1), (2, vi v2), (3, vi v3), (5, vr 11 v5), (6, vi v6)] [] μ (oV (k105 v1 v2 v3 v5 v6 μ))) (v1 : Int32) (v2 : Int32) (v3 : Int32) (v5 : Nat) (v6 : Int32) (s0 : Int32) (μ : sM) : sOk 0 cX0_tryHands 10 (d0 + 1) false 130 [(0, vr 1 0), (1, vi v1), (2, vi v2), (3, vi v3), (5, vr 11 v5), (6, vi v6)] [vi s0] μ (oV (X0_tryHands_J130 rec k105 v1 v2 v3 v5 v6 s0 μ)) := by
  unfold X0_tryHands_J130
  refine sBk (lo' := [(7, vi s0), (0, vr 1 0), (1, vi v1), (2, vi v2), (3, vi v3), (5, vr 11 v5), (6, vi v6)]) (st' := [vi (v1 + 1), vr 20 0]) (μ' := μ) (pc' := 139) [(.istore 7, 0, 0, 0, 0), (.aload_n 0, 0, 0, 0, 0), (.getfield 11, 0, 0, 0, 0), (.iload_n 1, 0, 0, 0, 0), (.iconst 1, 0, 0, 1, 0), (.iadd, 0, 0, 0, 0)] (by decide +kernel) rfl rfl ?_
  refine sS_aal oV rfl (n := 5) (j := (ix (v1 + 1))) (by decide +kernel) rfl rfl rfl (fun _ => ?_)
  refine sBk (lo' := [(8, vr 5 (4 + (ix (v1 + 1)))), (7, vi s0), (0, vr 1 0), (1, vi v1), (2, vi v2), (3, vi v3), (5, vr 11 v5), (6, vi v6)]) (st' := [vi v1, vr 20 0, vr 5 (4 + (ix (v1 + 1)))]) (μ' := μ) (pc' := 149) [(.astore 8, 0, 0, 0, 0), (.aload 8, 0, 0, 0, 0), (.aload_n 0, 0, 0, 0, 0), (.getfield 11, 0, 0, 0, 0), (.iload_n 1, 0, 0, 0, 0)] (by decide +kernel) rfl rfl ?_
  refine sS_aal oV rfl (n := 5) (j := (ix v1)) (by decide +kernel) rfl rfl rfl (fun _ => ?_)
  refine sCvV oV rfl (ci := 4) (q := (5, (4 + (ix (v1 + 1))))) (avs := [vr 5 (4 + (ix v1))]) (rest := []) (tX4_copyFrom (4 + (ix (v1 + 1))) (4 + (ix v1)) μ) (by omega) (by decide +kernel) lk_0_25 yv_X4_copyFrom rfl (by decide) rfl rfl rfl (Nat.le_of_ble_eq_true rfl) (fun μ2 => ?_)
  refine sBk (lo' := [(8, vr 5 (4 + (ix (v1 + 1)))), (7, vi s0), (0, vr 1 0), (1, vi v1), (2, vi v2), (3, vi v3), (5, vr 11 v5), (6, vi v6)]) (st' := [vi s0]) (μ' := μ2) (pc' := 155) [(.iload 7, 0, 0, 0, 0)] (by decide +kernel) rfl rfl ?_
  refine sIf_eq oV (off := 11) (tgt := 166) (by decide +kernel) (by decide) (fun _ => ?_) (fun _ => ?_)
  · refine sWk (lo' := [(0, vr 1 0), (1, vi v1), (2, vi v2), (3, vi v3), (5, vr 11 v5), (6, vi v6), (7, vi s0), (8, vr 5 (4 + (ix (v1 + 1))))]) [2, 3, 4, 5, 6, 7, 1, 0] rfl ?_
    exact X0_tryHands_J166_ok hd hrec hk105 v1 v2 v3 v5 v6 s0 (4 + (ix (v1 + 1))) μ2
  · refine sBk (lo' := [(8, vr 5 (4 + (ix (v1 + 1)))), (7, vi s0), (0, vr 1 0), (1, vi v1), (2, vi v2), (3, vi v3), (5, vr 11 v5), (6, vi v6)]) (st' := [vi 0, vi v6, vr 5 (4 + (ix (v1 + 1)))]) (μ' := μ2) (pc' := 163) [(.aload 8, 0, 0, 0, 0), (.iload 6, 0, 0, 0, 0), (.iconst 0, 0, 0, 0, 0)] (by decide +kernel) rfl rfl ?_
    refine sCvV oV rfl (ci := 4) (q := (5, (4 + (ix (v1 + 1))))) (avs := [vi v6, vi 0]) (rest := []) (tX4_letWind (4 + (ix (v1 + 1))) v6 0 μ2) (by omega) (by decide +kernel) lk_0_110 yv_X4_letWind rfl (by decide) rfl rfl rfl (Nat.le_of_ble_eq_true rfl) (fun μ4 => ?_)
    refine sWk (lo' := [(0, vr 1 0), (1, vi v1), (2, vi v2), (3, vi v3), (5, vr 11 v5), (6, vi v6), (7, vi s0), (8, vr 5 (4 + (ix (v1 + 1))))]) [2, 3, 4, 5, 6, 7, 1, 0] rfl ?_
    exact X0_tryHands_J166_ok hd hrec hk105 v1 v2 v3 v5 v6 s0 (4 + (ix (v1 + 1))) μ4
def X0_tryHands_L105 (rec : Int32 → Int32 → Int32 → sM → Option sM) : Nat → Int32 → Int32 → Int32 → Nat → Int32 → sM → Option sM
  | 0, _, _, _, _, _, _ => none
  | n + 1, v1, v2, v3, v5, v6, μ =>
    if (rI μ 11 v5 0) < v6 then
      some μ
    else
      if (rI μ 11 v5 0) ≤ v6 then
        X0_tryHands_J130 rec (X0_tryHands_L105 rec n) v1 v2 v3 v5 v6 0 μ
      else
        X0_tryHands_J130 rec (X0_tryHands_L105 rec n) v1 v2 v3 v5 v6 1 μ
theorem X0_tryHands_L105_ok {rec : Int32 → Int32 → Int32 → sM → Option sM} {d0 : Nat} (hd : 3 ≤ d0) (hrec : ∀ (a1 : Int32) (a2 : Int32) (a3 : Int32) (μ : sM), sMt yX0_tryHands cX0_tryHands 10 none d0 [vr 1 0, vi a1, vi a2, vi a3] μ (oV (rec a1 a2 a3 μ))) : ∀ (n : Nat) (v1 : Int32) (v2 : Int32) (v3 : Int32) (v5 : Nat) (v6 : Int32) (μ : sM), sOk 0 cX0_tryHands 10 (d0 + 1) false 105 [(0, vr 1 0), (1, vi v1), (2, vi v2), (3, vi v3), (5, vr 11 v5), (6, vi v6)] [] μ (oV (X0_tryHands_L105 rec n v1 v2 v3 v5 v6 μ)) := by
  intro n
  induction n with
  | zero =>
    intros
    exact sNo
  | succ n ih =>
    intro v1 v2 v3 v5 v6 μ
    unfold X0_tryHands_L105
    refine sBk (lo' := [(0, vr 1 0), (1, vi v1), (2, vi v2), (3, vi v3), (5, vr 11 v5), (6, vi v6)]) (st' := [vi (rI μ 11 v5 0), vi v6]) (μ' := μ) (pc' := 112) [(.iload 6, 0, 0, 0, 0), (.aload 5, 0, 0, 0, 0), (.getfield 107, 10, 0, 0, 0)] (by decide +kernel) rfl rfl ?_
    refine sIc_gt oV (off := 116) (tgt := 228) (by decide +kernel) (by decide) (fun _ => ?_) (fun _ => ?_)
    · exact sRv (by decide +kernel)
    · refine sBk (lo' := [(0, vr 1 0), (1, vi v1), (2, vi v2), (3, vi v3), (5, vr 11 v5), (6, vi v6)]) (st' := [vi (rI μ 11 v5 0), vi v6]) (μ' := μ) (pc' := 122) [(.iload 6, 0, 0, 0, 0), (.aload 5, 0, 0, 0, 0), (.getfield 107, 10, 0, 0, 0)] (by decide +kernel) rfl rfl ?_
      refine sIc_ge oV (off := 7) (tgt := 129) (by decide +kernel) (by decide) (fun _ => ?_) (fun _ => ?_)
      · refine sBk (lo' := [(0, vr 1 0), (1, vi v1), (2, vi v2), (3, vi v3), (5, vr 11 v5), (6, vi v6)]) (st' := [vi 0]) (μ' := μ) (pc' := 130) [(.iconst 0, 0, 0, 0, 0)] (by decide +kernel) rfl rfl ?_
        exact X0_tryHands_J130_ok hd hrec ih v1 v2 v3 v5 v6 0 μ
      · refine sBk (lo' := [(0, vr 1 0), (1, vi v1), (2, vi v2), (3, vi v3), (5, vr 11 v5), (6, vi v6)]) (st' := [vi 1]) (μ' := μ) (pc' := 126) [(.iconst 1, 0, 0, 1, 0)] (by decide +kernel) rfl rfl ?_
        refine sGt (off := 4) (tgt := 130) (by decide +kernel) (by decide) ?_
        exact X0_tryHands_J130_ok hd hrec ih v1 v2 v3 v5 v6 1 μ
def X0_tryHands_J17 (rec : Int32 → Int32 → Int32 → sM → Option sM) (v1 : Int32) (v2 : Int32) (v3 : Int32) (μ : sM) : Option sM :=
  if v1 < (rI μ 1 0 6) then
    if inb v1 5 = true then
      if (rI μ 1 0 7) ≤ (v3 + ((((rI μ 1 0 6) - v1) * 4) * (rI μ 3 (4 + (ix v1)) 0))) then
        if inb v1 5 = true then
          X0_tryHands_L105 rec fuN v1 v2 v3 (4 + (ix v1)) 0 μ
        else none
      else
        some μ
    else none
  else
    if v3 < (rI μ 1 0 7) then
      some μ
    else
      if cpo 0 0 (rI μ 1 0 6) 4 4 = true then
        some (cI (wI μ 1 0 8 v2) 22 0 (ix 0) 21 0 (ix 0) (ix (rI μ 1 0 6)))
      else none
theorem X0_tryHands_J17_ok {rec : Int32 → Int32 → Int32 → sM → Option sM} {d0 : Nat} (hd : 3 ≤ d0) (hrec : ∀ (a1 : Int32) (a2 : Int32) (a3 : Int32) (μ : sM), sMt yX0_tryHands cX0_tryHands 10 none d0 [vr 1 0, vi a1, vi a2, vi a3] μ (oV (rec a1 a2 a3 μ))) (v1 : Int32) (v2 : Int32) (v3 : Int32) (μ : sM) : sOk 0 cX0_tryHands 10 (d0 + 1) false 17 [(0, vr 1 0), (1, vi v1), (2, vi v2), (3, vi v3)] [] μ (oV (X0_tryHands_J17 rec v1 v2 v3 μ)) := by
  unfold X0_tryHands_J17
  refine sBk (lo' := [(0, vr 1 0), (1, vi v1), (2, vi v2), (3, vi v3)]) (st' := [vi (rI μ 1 0 6), vi v1]) (μ' := μ) (pc' := 22) [(.iload_n 1, 0, 0, 0, 0), (.aload_n 0, 0, 0, 0, 0), (.getfield 81, 0, 6, 0, 0)] (by decide +kernel) rfl rfl ?_
  refine sIc_lt oV (off := 34) (tgt := 56) (by decide +kernel) (by decide) (fun _ => ?_) (fun _ => ?_)
  · refine sBk (lo' := [(4, vi (((rI μ 1 0 6) - v1) * 4)), (0, vr 1 0), (1, vi v1), (2, vi v2), (3, vi v3)]) (st' := [vi v1, vr 20 0, vi (((rI μ 1 0 6) - v1) * 4), vi v3]) (μ' := μ) (pc' := 74) [(.aload_n 0, 0, 0, 0, 0), (.getfield 81, 0, 6, 0, 0), (.iload_n 1, 0, 0, 0, 0), (.isub, 0, 0, 0, 0), (.iconst 4, 0, 0, 4, 0), (.imul, 0, 0, 0, 0), (.istore 4, 0, 0, 0, 0), (.iload_n 3, 0, 0, 0, 0), (.iload 4, 0, 0, 0, 0), (.aload_n 0, 0, 0, 0, 0), (.getfield 11, 0, 0, 0, 0), (.iload_n 1, 0, 0, 0, 0)] (by decide +kernel) rfl rfl ?_
    refine sS_aal oV rfl (n := 5) (j := (ix v1)) (by decide +kernel) rfl rfl rfl (fun _ => ?_)
    refine sBk (lo' := [(4, vi (((rI μ 1 0 6) - v1) * 4)), (0, vr 1 0), (1, vi v1), (2, vi v2), (3, vi v3)]) (st' := [vi (rI μ 1 0 7), vi (v3 + ((((rI μ 1 0 6) - v1) * 4) * (rI μ 3 (4 + (ix v1)) 0)))]) (μ' := μ) (pc' := 87) [(.getfield 57, 4, 9, 0, 0), (.getfield 100, 2, 0, 0, 0), (.imul, 0, 0, 0, 0), (.iadd, 0, 0, 0, 0), (.aload_n 0, 0, 0, 0, 0), (.getfield 84, 0, 7, 0, 0)] (by decide +kernel) rfl rfl ?_
    refine sIc_ge oV (off := 4) (tgt := 91) (by decide +kernel) (by decide) (fun _ => ?_) (fun _ => ?_)
    · refine sBk (lo' := [(4, vi (((rI μ 1 0 6) - v1) * 4)), (0, vr 1 0), (1, vi v1), (2, vi v2), (3, vi v3)]) (st' := [vi v1, vr 20 0]) (μ' := μ) (pc' := 96) [(.aload_n 0, 0, 0, 0, 0), (.getfield 11, 0, 0, 0, 0), (.iload_n 1, 0, 0, 0, 0)] (by decide +kernel) rfl rfl ?_
      refine sS_aal oV rfl (n := 5) (j := (ix v1)) (by decide +kernel) rfl rfl rfl (fun _ => ?_)
      refine sBk (lo' := [(6, vi 0), (5, vr 11 (4 + (ix v1))), (4, vi (((rI μ 1 0 6) - v1) * 4)), (0, vr 1 0), (1, vi v1), (2, vi v2), (3, vi v3)]) (st' := []) (μ' := μ) (pc' := 105) [(.getfield 103, 4, 10, 0, 0), (.astore 5, 0, 0, 0, 0), (.iconst 0, 0, 0, 0, 0), (.istore 6, 0, 0, 0, 0)] (by decide +kernel) rfl rfl ?_
      refine sWk (lo' := [(0, vr 1 0), (1, vi v1), (2, vi v2), (3, vi v3), (5, vr 11 (4 + (ix v1))), (6, vi 0)]) [3, 4, 5, 6, 1, 0] rfl ?_
      exact X0_tryHands_L105_ok hd hrec fuN v1 v2 v3 (4 + (ix v1)) 0 μ
    · exact sRv (by decide +kernel)
  · refine sBk (lo' := [(0, vr 1 0), (1, vi v1), (2, vi v2), (3, vi v3)]) (st' := [vi (rI μ 1 0 7), vi v3]) (μ' := μ) (pc' := 30) [(.iload_n 3, 0, 0, 0, 0), (.aload_n 0, 0, 0, 0, 0), (.getfield 84, 0, 7, 0, 0)] (by decide +kernel) rfl rfl ?_
    refine sIc_lt oV (off := 25) (tgt := 55) (by decide +kernel) (by decide) (fun _ => ?_) (fun _ => ?_)
    · exact sRv (by decide +kernel)
    · refine sBk (lo' := [(0, vr 1 0), (1, vi v1), (2, vi v2), (3, vi v3)]) (st' := [vi (rI μ 1 0 6), vi 0, vr 21 0, vi 0, vr 22 0]) (μ' := wI μ 1 0 8 v2) (pc' := 52) [(.aload_n 0, 0, 0, 0, 0), (.iload_n 2, 0, 0, 0, 0), (.putfield 87, 0, 8, 0, 0), (.aload_n 0, 0, 0, 0, 0), (.getfield 21, 0, 5, 0, 0), (.iconst 0, 0, 0, 0, 0), (.aload_n 0, 0, 0, 0, 0), (.getfield 17, 0, 4, 0, 0), (.iconst 0, 0, 0, 0, 0), (.aload_n 0, 0, 0, 0, 0), (.getfield 81, 0, 6, 0, 0)] (by decide +kernel) rfl rfl ?_
      refine sCk oV rfl (fun h => ?_)
      refine sCpI (q0 := (22, 0)) (q1 := (21, 0)) (idx := 94) (p1 := 1281) (by decide +kernel) rfl rfl (by omega) h ?_
      exact sRv (by decide +kernel)
def X0_tryHands_ (rec : Int32 → Int32 → Int32 → sM → Option sM) (a1 : Int32) (a2 : Int32) (a3 : Int32) (μ : sM) : Option sM :=
  if (rI μ 1 0 8) = (-1) then
    X0_tryHands_J17 rec a1 a2 a3 μ
  else
    if a2 < (rI μ 1 0 8) then
      X0_tryHands_J17 rec a1 a2 a3 μ
    else
      some μ
theorem tX0_tryHands_ {rec : Int32 → Int32 → Int32 → sM → Option sM} {d0 : Nat} (hd : 3 ≤ d0) (hrec : ∀ (a1 : Int32) (a2 : Int32) (a3 : Int32) (μ : sM), sMt yX0_tryHands cX0_tryHands 10 none d0 [vr 1 0, vi a1, vi a2, vi a3] μ (oV (rec a1 a2 a3 μ))) (a1 : Int32) (a2 : Int32) (a3 : Int32) (μ : sM) : sMt yX0_tryHands cX0_tryHands 10 none (d0 + 1) [vr 1 0, vi a1, vi a2, vi a3] μ (oV (X0_tryHands_ rec a1 a2 a3 μ)) := by
  refine sMt_of (own := 0) (bl := false) (by decide +kernel) rfl (Nat.le_of_ble_eq_true rfl) (fun r ρ h => ?_) ?_
  · obtain ⟨q, -, hq⟩ := Option.map_eq_some_iff.mp h
    cases hq
    exact rfl
  · unfold X0_tryHands_
    show sOk 0 cX0_tryHands 10 (d0 + 1) false 0 [(0, vr 1 0), (1, vi a1), (2, vi a2), (3, vi a3)] [] μ _
    refine sBk (lo' := [(0, vr 1 0), (1, vi a1), (2, vi a2), (3, vi a3)]) (st' := [vi (-1), vi (rI μ 1 0 8)]) (μ' := μ) (pc' := 5) [(.aload_n 0, 0, 0, 0, 0), (.getfield 87, 0, 8, 0, 0), (.iconst (-1), 0, 0, (-1), 0)] (by decide +kernel) rfl rfl ?_
    refine sIc_eq oV (off := 12) (tgt := 17) (by decide +kernel) (by decide) (fun _ => ?_) (fun _ => ?_)
    · exact X0_tryHands_J17_ok hd hrec a1 a2 a3 μ
    · refine sBk (lo' := [(0, vr 1 0), (1, vi a1), (2, vi a2), (3, vi a3)]) (st' := [vi (rI μ 1 0 8), vi a2]) (μ' := μ) (pc' := 13) [(.iload_n 2, 0, 0, 0, 0), (.aload_n 0, 0, 0, 0, 0), (.getfield 87, 0, 8, 0, 0)] (by decide +kernel) rfl rfl ?_
      refine sIc_lt oV (off := 4) (tgt := 17) (by decide +kernel) (by decide) (fun _ => ?_) (fun _ => ?_)
      · exact X0_tryHands_J17_ok hd hrec a1 a2 a3 μ
      · exact sRv (by decide +kernel)
def X0_tryHandsN : Nat → Int32 → Int32 → Int32 → sM → Option sM
  | 0 => fun _ _ _ _ => none
  | n + 1 => X0_tryHands_ (X0_tryHandsN n)
theorem tX0_tryHandsN : ∀ (n : Nat) (a1 : Int32) (a2 : Int32) (a3 : Int32) (μ : sM), sMt yX0_tryHands cX0_tryHands 10 none (3 + n) [vr 1 0, vi a1, vi a2, vi a3] μ (oV (X0_tryHandsN n a1 a2 a3 μ))
  | 0, _, _, _, _ => fun _ _ h => by cases h
  | n + 1, a1, a2, a3, μ => tX0_tryHands_ (d0 := 3 + n) (by omega) (fun a1 a2 a3 μ => tX0_tryHandsN n a1 a2 a3 μ) a1 a2 a3 μ
def X0_tryHands (a1 : Int32) (a2 : Int32) (a3 : Int32) (μ : sM) : Option sM := X0_tryHandsN 6 a1 a2 a3 μ
theorem tX0_tryHands (a1 : Int32) (a2 : Int32) (a3 : Int32) (μ : sM) : sMt yX0_tryHands cX0_tryHands 10 none 9 [vr 1 0, vi a1, vi a2, vi a3] μ (oV (X0_tryHands a1 a2 a3 μ)) := tX0_tryHandsN 6 a1 a2 a3 μ
/-! ClockRiver$Ahead.hireFor -/
def X0_hireFor (a1 : Nat) (a2 : Int32) (a3 : Int32) (μ : sM) : Option (Int32 × sM) :=
  bA (X0_copyOf a1 (wI (wI (wI μ 1 0 6 (imn a2 4)) 1 0 7 a3) 1 0 8 (-1))) fun x1 μ2 =>
    bV (X0_tryHands 0 0 0 μ2) fun μ4 =>
      some ((rI μ4 1 0 8), μ4)
theorem tX0_hireFor (a1 : Nat) (a2 : Int32) (a3 : Int32) (μ : sM) : sMt yX0_hireFor cX0_hireFor 4 (some .int) 10 [vr 1 0, vr 5 a1, vi a2, vi a3] μ (oI (X0_hireFor a1 a2 a3 μ)) := by
  refine sMt_of (own := 0) (bl := false) (by decide +kernel) rfl (Nat.le_of_ble_eq_true rfl) (fun r ρ h => ?_) ?_
  · obtain ⟨q, -, hq⟩ := Option.map_eq_some_iff.mp h
    cases hq
    exact Or.inl rfl
  · unfold X0_hireFor
    show sOk 0 cX0_hireFor 4 10 false 0 [(0, vr 1 0), (1, vr 5 a1), (2, vi a2), (3, vi a3)] [] μ _
    refine sBk (lo' := [(0, vr 1 0), (1, vr 5 a1), (2, vi a2), (3, vi a3)]) (st' := [vi 4, vi a2, vr 1 0]) (μ' := μ) (pc' := 3) [(.aload_n 0, 0, 0, 0, 0), (.iload_n 2, 0, 0, 0, 0), (.iconst 4, 0, 0, 4, 0)] (by decide +kernel) rfl rfl ?_
    refine sMin (idx := 75) (p1 := 1276) (by decide +kernel) (by decide) (Nat.le_of_ble_eq_true rfl) ?_
    refine sBk (lo' := [(0, vr 1 0), (1, vr 5 a1), (2, vi a2), (3, vi a3)]) (st' := [vr 5 a1, vr 1 0]) (μ' := wI (wI (wI μ 1 0 6 (imn a2 4)) 1 0 7 a3) 1 0 8 (-1)) (pc' := 21) [(.putfield 81, 0, 6, 0, 0), (.aload_n 0, 0, 0, 0, 0), (.iload_n 3, 0, 0, 0, 0), (.putfield 84, 0, 7, 0, 0), (.aload_n 0, 0, 0, 0, 0), (.iconst (-1), 0, 0, (-1), 0), (.putfield 87, 0, 8, 0, 0), (.aload_n 0, 0, 0, 0, 0), (.aload_n 1, 0, 0, 0, 0)] (by decide +kernel) rfl rfl ?_
    refine sCvA oI rfl (ci := 0) (q := (1, 0)) (avs := [vr 5 a1]) (rest := []) (tX0_copyOf a1 (wI (wI (wI μ 1 0 6 (imn a2 4)) 1 0 7 a3) 1 0 8 (-1))) (by decide) (by decide +kernel) lk_0_29 yv_X0_copyOf rfl (by decide) rfl rfl rfl (Nat.le_of_ble_eq_true rfl) (fun x1 μ2 => ?_)
    refine sBk (lo' := [(0, vr 1 0), (1, vr 5 a1), (2, vi a2), (3, vi a3)]) (st' := [vi 0, vi 0, vi 0, vr 1 0]) (μ' := μ2) (pc' := 29) [(.pop, 0, 0, 0, 0), (.aload_n 0, 0, 0, 0, 0), (.iconst 0, 0, 0, 0, 0), (.iconst 0, 0, 0, 0, 0), (.iconst 0, 0, 0, 0, 0)] (by decide +kernel) rfl rfl ?_
    refine sCvV oI rfl (ci := 0) (q := (1, 0)) (avs := [vi 0, vi 0, vi 0]) (rest := []) (tX0_tryHands 0 0 0 μ2) (by decide) (by decide +kernel) lk_0_90 yv_X0_tryHands rfl (by decide) rfl rfl rfl (Nat.le_of_ble_eq_true rfl) (fun μ4 => ?_)
    refine sBk (lo' := [(0, vr 1 0), (1, vr 5 a1), (2, vi a2), (3, vi a3)]) (st' := [vi (rI μ4 1 0 8)]) (μ' := μ4) (pc' := 36) [(.aload_n 0, 0, 0, 0, 0), (.getfield 87, 0, 8, 0, 0)] (by decide +kernel) rfl rfl ?_
    exact sRi (by decide +kernel) (fun h => by cases h)
/-! ClockRiver$Ahead.leadOf -/
def X0_leadOf (a1 : Nat) (μ : sM) : Option (Int32 × sM) :=
  if inb (rI μ 1 0 9) 6 = true then
    if inb (rI μ 1 0 10) 6 = true then
      some (((rI μ 27 a1 (ix (rI μ 1 0 9))) - (rI μ 27 a1 (ix (rI μ 1 0 10)))), μ)
    else none
  else none
theorem tX0_leadOf (a1 : Nat) (μ : sM) : sMt yX0_leadOf cX0_leadOf 2 (some .int) 1 [vr 1 0, vr 5 a1] μ (oI (X0_leadOf a1 μ)) := by
  refine sMt_of (own := 0) (bl := false) (by decide +kernel) rfl (Nat.le_of_ble_eq_true rfl) (fun r ρ h => ?_) ?_
  · obtain ⟨q, -, hq⟩ := Option.map_eq_some_iff.mp h
    cases hq
    exact Or.inl rfl
  · unfold X0_leadOf
    show sOk 0 cX0_leadOf 2 1 false 0 [(0, vr 1 0), (1, vr 5 a1)] [] μ _
    refine sBk (lo' := [(0, vr 1 0), (1, vr 5 a1)]) (st' := [vi (rI μ 1 0 9), vr 27 a1]) (μ' := μ) (pc' := 11) [(.aload_n 1, 0, 0, 0, 0), (.getfield 57, 4, 9, 0, 0), (.getfield 61, 2, 4, 0, 0), (.aload_n 0, 0, 0, 0, 0), (.getfield 117, 0, 9, 0, 0)] (by decide +kernel) rfl rfl ?_
    refine sS_ial oI rfl (n := 6) (j := (ix (rI μ 1 0 9))) (by decide +kernel) rfl rfl rfl (fun _ => ?_)
    refine sBk (lo' := [(0, vr 1 0), (1, vr 5 a1)]) (st' := [vi (rI μ 1 0 10), vr 27 a1, vi (rI μ 27 a1 (ix (rI μ 1 0 9)))]) (μ' := μ) (pc' := 23) [(.aload_n 1, 0, 0, 0, 0), (.getfield 57, 4, 9, 0, 0), (.getfield 61, 2, 4, 0, 0), (.aload_n 0, 0, 0, 0, 0), (.getfield 120, 0, 10, 0, 0)] (by decide +kernel) rfl rfl ?_
    refine sS_ial oI rfl (n := 6) (j := (ix (rI μ 1 0 10))) (by decide +kernel) rfl rfl rfl (fun _ => ?_)
    refine sBk (lo' := [(0, vr 1 0), (1, vr 5 a1)]) (st' := [vi ((rI μ 27 a1 (ix (rI μ 1 0 9))) - (rI μ 27 a1 (ix (rI μ 1 0 10))))]) (μ' := μ) (pc' := 25) [(.isub, 0, 0, 0, 0)] (by decide +kernel) rfl rfl ?_
    exact sRi (by decide +kernel) (fun h => by cases h)
/-! ClockRiver$Ahead.moveGate -/
def X0_moveGate (a0 : Nat) (a1 : Int32) (a2 : Int32) (μ : sM) : Option sM :=
  if inb a1 6 = true then
    if a2 = 0 then
      if inb (rI μ 25 a0 (ix a1)) 6 = true then
        some (wI μ 30 a0 (ix (rI μ 25 a0 (ix a1))) 99)
      else none
    else
      if a2 = 1 then
        if inb (rI μ 25 a0 (ix a1)) 6 = true then
          some (wI μ 30 a0 (ix (rI μ 25 a0 (ix a1))) 0)
        else none
      else
        some μ
  else none
theorem tX0_moveGate (a0 : Nat) (a1 : Int32) (a2 : Int32) (μ : sM) : sMt yX0_moveGate cX0_moveGate 4 none 1 [vr 5 a0, vi a1, vi a2] μ (oV (X0_moveGate a0 a1 a2 μ)) := by
  refine sMt_of (own := 0) (bl := false) (by decide +kernel) rfl (Nat.le_of_ble_eq_true rfl) (fun r ρ h => ?_) ?_
  · obtain ⟨q, -, hq⟩ := Option.map_eq_some_iff.mp h
    cases hq
    exact rfl
  · unfold X0_moveGate
    show sOk 0 cX0_moveGate 4 1 false 0 [(0, vr 5 a0), (1, vi a1), (2, vi a2)] [] μ _
    refine sBk (lo' := [(0, vr 5 a0), (1, vi a1), (2, vi a2)]) (st' := [vi a1, vr 25 a0]) (μ' := μ) (pc' := 8) [(.aload_n 0, 0, 0, 0, 0), (.getfield 57, 4, 9, 0, 0), (.getfield 140, 2, 2, 0, 0), (.iload_n 1, 0, 0, 0, 0)] (by decide +kernel) rfl rfl ?_
    refine sS_ial oV rfl (n := 6) (j := (ix a1)) (by decide +kernel) rfl rfl rfl (fun _ => ?_)
    refine sBk (lo' := [(3, vi (rI μ 25 a0 (ix a1))), (0, vr 5 a0), (1, vi a1), (2, vi a2)]) (st' := [vi a2]) (μ' := μ) (pc' := 11) [(.istore_n 3, 0, 0, 0, 0), (.iload_n 2, 0, 0, 0, 0)] (by decide +kernel) rfl rfl ?_
    refine sIf_ne oV (off := 17) (tgt := 28) (by decide +kernel) (by decide) (fun _ => ?_) (fun _ => ?_)
    · refine sBk (lo' := [(3, vi (rI μ 25 a0 (ix a1))), (0, vr 5 a0), (1, vi a1), (2, vi a2)]) (st' := [vi 1, vi a2]) (μ' := μ) (pc' := 30) [(.iload_n 2, 0, 0, 0, 0), (.iconst 1, 0, 0, 1, 0)] (by decide +kernel) rfl rfl ?_
      refine sIc_ne oV (off := 13) (tgt := 43) (by decide +kernel) (by decide) (fun _ => ?_) (fun _ => ?_)
      · exact sRv (by decide +kernel)
      · refine sBk (lo' := [(3, vi (rI μ 25 a0 (ix a1))), (0, vr 5 a0), (1, vi a1), (2, vi a2)]) (st' := [vi 0, vi (rI μ 25 a0 (ix a1)), vr 30 a0]) (μ' := μ) (pc' := 42) [(.aload_n 0, 0, 0, 0, 0), (.getfield 37, 4, 8, 0, 0), (.getfield 69, 3, 3, 0, 0), (.iload_n 3, 0, 0, 0, 0), (.iconst 0, 0, 0, 0, 0)] (by decide +kernel) rfl rfl ?_
        refine sS_ias oV rfl (n := 6) (j := (ix (rI μ 25 a0 (ix a1)))) (by decide +kernel) rfl rfl rfl (fun _ => ?_)
        exact sRv (by decide +kernel)
    · refine sBk (lo' := [(3, vi (rI μ 25 a0 (ix a1))), (0, vr 5 a0), (1, vi a1), (2, vi a2)]) (st' := [vi 99, vi (rI μ 25 a0 (ix a1)), vr 30 a0]) (μ' := μ) (pc' := 24) [(.aload_n 0, 0, 0, 0, 0), (.getfield 37, 4, 8, 0, 0), (.getfield 69, 3, 3, 0, 0), (.iload_n 3, 0, 0, 0, 0), (.bipush 99, 0, 0, 99, 0)] (by decide +kernel) rfl rfl ?_
      refine sS_ias oV rfl (n := 6) (j := (ix (rI μ 25 a0 (ix a1)))) (by decide +kernel) rfl rfl rfl (fun _ => ?_)
      refine sGt (off := 18) (tgt := 43) (by decide +kernel) (by decide) ?_
      exact sRv (by decide +kernel)
/-! ClockRiver$Ahead.play -/
def X0_play_J137 (rec : Int32 → sM → Option (Int32 × sM)) (k36 : Int32 → Int32 → Int32 → Int32 → sM → Option (Int32 × sM)) (v1 : Int32) (v2 : Int32) (v3 : Int32) (v4 : Int32) (μ : sM) : Option (Int32 × sM) :=
  k36 v1 v2 v3 (v4 + 1) μ
theorem X0_play_J137_ok {rec : Int32 → sM → Option (Int32 × sM)} {d0 : Nat} (hd : 2 ≤ d0) (hrec : ∀ (a1 : Int32) (μ : sM), sMt yX0_play cX0_play 7 (some .int) d0 [vr 1 0, vi a1] μ (oI (rec a1 μ))) {k36 : Int32 → Int32 → Int32 → Int32 → sM → Option (Int32 × sM)} (hk36 : ∀ (v1 : Int32) (v2 : Int32) (v3 : Int32) (v4 : Int32) (μ : sM), sOk 0 cX0_play 7 (d0 + 1) false 36 [(0, vr 1 0), (1, vi v1), (2, vi v2), (3, vi v3), (4, vi v4)] [] μ (oI (k36 v1 v2 v3 v4 μ))) (v1 : Int32) (v2 : Int32) (v3 : Int32) (v4 : Int32) (μ : sM) : sOk 0 cX0_play 7 (d0 + 1) false 137 [(0, vr 1 0), (1, vi v1), (2, vi v2), (3, vi v3), (4, vi v4)] [] μ (oI (X0_play_J137 rec k36 v1 v2 v3 v4 μ)) := by
  unfold X0_play_J137
  refine sBk (lo' := [(4, vi (v4 + 1)), (0, vr 1 0), (1, vi v1), (2, vi v2), (3, vi v3)]) (st' := []) (μ' := μ) (pc' := 140) [(.iinc 4 1, 0, 0, 1, 0)] (by decide +kernel) rfl rfl ?_
  refine sGt (off := (-104)) (tgt := 36) (by decide +kernel) (by decide) ?_
  refine sWk (lo' := [(0, vr 1 0), (1, vi v1), (2, vi v2), (3, vi v3), (4, vi (v4 + 1))]) [1, 2, 3, 4, 0] rfl ?_
  exact hk36 v1 v2 v3 (v4 + 1) μ
def X0_play_J124 (rec : Int32 → sM → Option (Int32 × sM)) (k36 : Int32 → Int32 → Int32 → Int32 → sM → Option (Int32 × sM)) (v1 : Int32) (v2 : Int32) (v4 : Int32) (v6 : Int32) (μ : sM) : Option (Int32 × sM) :=
  if v1 = 0 then
    X0_play_J137 rec k36 v1 v2 v6 v4 (wI μ 1 0 3 v4)
  else
    X0_play_J137 rec k36 v1 v2 v6 v4 μ
theorem X0_play_J124_ok {rec : Int32 → sM → Option (Int32 × sM)} {d0 : Nat} (hd : 2 ≤ d0) (hrec : ∀ (a1 : Int32) (μ : sM), sMt yX0_play cX0_play 7 (some .int) d0 [vr 1 0, vi a1] μ (oI (rec a1 μ))) {k36 : Int32 → Int32 → Int32 → Int32 → sM → Option (Int32 × sM)} (hk36 : ∀ (v1 : Int32) (v2 : Int32) (v3 : Int32) (v4 : Int32) (μ : sM), sOk 0 cX0_play 7 (d0 + 1) false 36 [(0, vr 1 0), (1, vi v1), (2, vi v2), (3, vi v3), (4, vi v4)] [] μ (oI (k36 v1 v2 v3 v4 μ))) (v1 : Int32) (v2 : Int32) (v4 : Int32) (v6 : Int32) (μ : sM) : sOk 0 cX0_play 7 (d0 + 1) false 124 [(0, vr 1 0), (1, vi v1), (2, vi v2), (4, vi v4), (6, vi v6)] [] μ (oI (X0_play_J124 rec k36 v1 v2 v4 v6 μ)) := by
  unfold X0_play_J124
  refine sBk (lo' := [(3, vi v6), (0, vr 1 0), (1, vi v1), (2, vi v2), (4, vi v4), (6, vi v6)]) (st' := [vi v1]) (μ' := μ) (pc' := 128) [(.iload 6, 0, 0, 0, 0), (.istore_n 3, 0, 0, 0, 0), (.iload_n 1, 0, 0, 0, 0)] (by decide +kernel) rfl rfl ?_
  refine sIf_ne oI (off := 9) (tgt := 137) (by decide +kernel) (by decide) (fun _ => ?_) (fun _ => ?_)
  · refine sWk (lo' := [(0, vr 1 0), (1, vi v1), (2, vi v2), (3, vi v6), (4, vi v4)]) [1, 2, 3, 0, 4] rfl ?_
    exact X0_play_J137_ok hd hrec hk36 v1 v2 v6 v4 μ
  · refine sBk (lo' := [(3, vi v6), (0, vr 1 0), (1, vi v1), (2, vi v2), (4, vi v4), (6, vi v6)]) (st' := []) (μ' := wI μ 1 0 3 v4) (pc' := 137) [(.aload_n 0, 0, 0, 0, 0), (.iload 4, 0, 0, 0, 0), (.putfield 126, 0, 3, 0, 0)] (by decide +kernel) rfl rfl ?_
    refine sWk (lo' := [(0, vr 1 0), (1, vi v1), (2, vi v2), (3, vi v6), (4, vi v4)]) [1, 2, 3, 0, 4] rfl ?_
    exact X0_play_J137_ok hd hrec hk36 v1 v2 v6 v4 (wI μ 1 0 3 v4)
def X0_play_J80 (rec : Int32 → sM → Option (Int32 × sM)) (k36 : Int32 → Int32 → Int32 → Int32 → sM → Option (Int32 × sM)) (v1 : Int32) (v2 : Int32) (v3 : Int32) (v4 : Int32) (v5 : Nat) (s0 : Int32) (s1 : Nat) (μ : sM) : Option (Int32 × sM) :=
  bV (X0_moveGate s1 s0 v4 μ) fun μ2 =>
    bI (X4_passHour v5 μ2) fun x3 μ4 =>
      bI (rec (v1 + 1) μ4) fun x5 μ6 =>
        if v4 = 0 then
          X0_play_J124 rec k36 v1 v2 v4 x5 μ6
        else
          if v2 = 0 then
            if v3 ≤ x5 then
              X0_play_J137 rec k36 v1 v2 v3 v4 μ6
            else
              X0_play_J124 rec k36 v1 v2 v4 x5 μ6
          else
            if x5 ≤ v3 then
              X0_play_J137 rec k36 v1 v2 v3 v4 μ6
            else
              X0_play_J124 rec k36 v1 v2 v4 x5 μ6
theorem X0_play_J80_ok {rec : Int32 → sM → Option (Int32 × sM)} {d0 : Nat} (hd : 2 ≤ d0) (hrec : ∀ (a1 : Int32) (μ : sM), sMt yX0_play cX0_play 7 (some .int) d0 [vr 1 0, vi a1] μ (oI (rec a1 μ))) {k36 : Int32 → Int32 → Int32 → Int32 → sM → Option (Int32 × sM)} (hk36 : ∀ (v1 : Int32) (v2 : Int32) (v3 : Int32) (v4 : Int32) (μ : sM), sOk 0 cX0_play 7 (d0 + 1) false 36 [(0, vr 1 0), (1, vi v1), (2, vi v2), (3, vi v3), (4, vi v4)] [] μ (oI (k36 v1 v2 v3 v4 μ))) (v1 : Int32) (v2 : Int32) (v3 : Int32) (v4 : Int32) (v5 : Nat) (s0 : Int32) (s1 : Nat) (μ : sM) : sOk 0 cX0_play 7 (d0 + 1) false 80 [(0, vr 1 0), (1, vi v1), (2, vi v2), (3, vi v3), (4, vi v4), (5, vr 5 v5)] [vi s0, vr 5 s1] μ (oI (X0_play_J80 rec k36 v1 v2 v3 v4 v5 s0 s1 μ)) := by
  unfold X0_play_J80
  refine sBk (lo' := [(0, vr 1 0), (1, vi v1), (2, vi v2), (3, vi v3), (4, vi v4), (5, vr 5 v5)]) (st' := [vi v4, vi s0, vr 5 s1]) (μ' := μ) (pc' := 82) [(.iload 4, 0, 0, 0, 0)] (by decide +kernel) rfl rfl ?_
  refine sCsV oI rfl (avs := [vr 5 s1, vi s0, vi v4]) (rest := []) (tX0_moveGate s1 s0 v4 μ) (by omega) (by decide +kernel) lk_0_136 ys_X0_moveGate rfl rfl (Nat.le_of_ble_eq_true rfl) (fun μ2 => ?_)
  refine sBk (lo' := [(0, vr 1 0), (1, vi v1), (2, vi v2), (3, vi v3), (4, vi v4), (5, vr 5 v5)]) (st' := [vr 5 v5]) (μ' := μ2) (pc' := 87) [(.aload 5, 0, 0, 0, 0)] (by decide +kernel) rfl rfl ?_
  refine sCvI oI rfl (ci := 4) (q := (5, v5)) (avs := []) (rest := []) (tX4_passHour v5 μ2) (by omega) (by decide +kernel) lk_0_46 yv_X4_passHour rfl (by decide) rfl rfl rfl (Nat.le_of_ble_eq_true rfl) (fun x3 μ4 => ?_)
  refine sBk (lo' := [(0, vr 1 0), (1, vi v1), (2, vi v2), (3, vi v3), (4, vi v4), (5, vr 5 v5)]) (st' := [vi (v1 + 1), vr 1 0]) (μ' := μ4) (pc' := 95) [(.pop, 0, 0, 0, 0), (.aload_n 0, 0, 0, 0, 0), (.iload_n 1, 0, 0, 0, 0), (.iconst 1, 0, 0, 1, 0), (.iadd, 0, 0, 0, 0)] (by decide +kernel) rfl rfl ?_
  refine sCvI oI rfl (ci := 0) (q := (1, 0)) (avs := [vi (v1 + 1)]) (rest := []) (hrec (v1 + 1) μ4) (by omega) (by decide +kernel) lk_0_129 yv_X0_play rfl (by decide) rfl rfl rfl (Nat.le_of_ble_eq_true rfl) (fun x5 μ6 => ?_)
  refine sBk (lo' := [(6, vi x5), (0, vr 1 0), (1, vi v1), (2, vi v2), (3, vi v3), (4, vi v4), (5, vr 5 v5)]) (st' := [vi v4]) (μ' := μ6) (pc' := 102) [(.istore 6, 0, 0, 0, 0), (.iload 4, 0, 0, 0, 0)] (by decide +kernel) rfl rfl ?_
  refine sIf_eq oI (off := 22) (tgt := 124) (by decide +kernel) (by decide) (fun _ => ?_) (fun _ => ?_)
  · refine sWk (lo' := [(0, vr 1 0), (1, vi v1), (2, vi v2), (4, vi v4), (6, vi x5)]) [1, 2, 3, 5, 0] rfl ?_
    exact X0_play_J124_ok hd hrec hk36 v1 v2 v4 x5 μ6
  · refine sBk (lo' := [(6, vi x5), (0, vr 1 0), (1, vi v1), (2, vi v2), (3, vi v3), (4, vi v4), (5, vr 5 v5)]) (st' := [vi v2]) (μ' := μ6) (pc' := 106) [(.iload_n 2, 0, 0, 0, 0)] (by decide +kernel) rfl rfl ?_
    refine sIf_eq oI (off := 12) (tgt := 118) (by decide +kernel) (by decide) (fun _ => ?_) (fun _ => ?_)
    · refine sBk (lo' := [(6, vi x5), (0, vr 1 0), (1, vi v1), (2, vi v2), (3, vi v3), (4, vi v4), (5, vr 5 v5)]) (st' := [vi v3, vi x5]) (μ' := μ6) (pc' := 121) [(.iload 6, 0, 0, 0, 0), (.iload_n 3, 0, 0, 0, 0)] (by decide +kernel) rfl rfl ?_
      refine sIc_ge oI (off := 16) (tgt := 137) (by decide +kernel) (by decide) (fun _ => ?_) (fun _ => ?_)
      · refine sWk (lo' := [(0, vr 1 0), (1, vi v1), (2, vi v2), (3, vi v3), (4, vi v4)]) [1, 2, 3, 4, 5] rfl ?_
        exact X0_play_J137_ok hd hrec hk36 v1 v2 v3 v4 μ6
      · refine sWk (lo' := [(0, vr 1 0), (1, vi v1), (2, vi v2), (4, vi v4), (6, vi x5)]) [1, 2, 3, 5, 0] rfl ?_
        exact X0_play_J124_ok hd hrec hk36 v1 v2 v4 x5 μ6
    · refine sBk (lo' := [(6, vi x5), (0, vr 1 0), (1, vi v1), (2, vi v2), (3, vi v3), (4, vi v4), (5, vr 5 v5)]) (st' := [vi v3, vi x5]) (μ' := μ6) (pc' := 112) [(.iload 6, 0, 0, 0, 0), (.iload_n 3, 0, 0, 0, 0)] (by decide +kernel) rfl rfl ?_
      refine sIc_le oI (off := 25) (tgt := 137) (by decide +kernel) (by decide) (fun _ => ?_) (fun _ => ?_)
      · refine sWk (lo' := [(0, vr 1 0), (1, vi v1), (2, vi v2), (3, vi v3), (4, vi v4)]) [1, 2, 3, 4, 5] rfl ?_
        exact X0_play_J137_ok hd hrec hk36 v1 v2 v3 v4 μ6
      · refine sGt (off := 9) (tgt := 124) (by decide +kernel) (by decide) ?_
        refine sWk (lo' := [(0, vr 1 0), (1, vi v1), (2, vi v2), (4, vi v4), (6, vi x5)]) [1, 2, 3, 5, 0] rfl ?_
        exact X0_play_J124_ok hd hrec hk36 v1 v2 v4 x5 μ6
def X0_play_L36 (rec : Int32 → sM → Option (Int32 × sM)) : Nat → Int32 → Int32 → Int32 → Int32 → sM → Option (Int32 × sM)
  | 0, _, _, _, _, _ => none
  | n + 1, v1, v2, v3, v4, μ =>
    if 2 < v4 then
      some (v3, μ)
    else
      if inb (v1 + 1) 5 = true then
        if inb v1 5 = true then
          bV (X4_copyFrom (4 + (ix (v1 + 1))) (4 + (ix v1)) μ) fun μ2 =>
            if v2 = 0 then
              X0_play_J80 rec (X0_play_L36 rec n) v1 v2 v3 v4 (4 + (ix (v1 + 1))) (rI μ2 1 0 10) (4 + (ix (v1 + 1))) μ2
            else
              X0_play_J80 rec (X0_play_L36 rec n) v1 v2 v3 v4 (4 + (ix (v1 + 1))) (rI μ2 1 0 9) (4 + (ix (v1 + 1))) μ2
        else none
      else none
theorem X0_play_L36_ok {rec : Int32 → sM → Option (Int32 × sM)} {d0 : Nat} (hd : 2 ≤ d0) (hrec : ∀ (a1 : Int32) (μ : sM), sMt yX0_play cX0_play 7 (some .int) d0 [vr 1 0, vi a1] μ (oI (rec a1 μ))) : ∀ (n : Nat) (v1 : Int32) (v2 : Int32) (v3 : Int32) (v4 : Int32) (μ : sM), sOk 0 cX0_play 7 (d0 + 1) false 36 [(0, vr 1 0), (1, vi v1), (2, vi v2), (3, vi v3), (4, vi v4)] [] μ (oI (X0_play_L36 rec n v1 v2 v3 v4 μ)) := by
  intro n
  induction n with
  | zero =>
    intros
    exact sNo
  | succ n ih =>
    intro v1 v2 v3 v4 μ
    unfold X0_play_L36
    refine sBk (lo' := [(0, vr 1 0), (1, vi v1), (2, vi v2), (3, vi v3), (4, vi v4)]) (st' := [vi 2, vi v4]) (μ' := μ) (pc' := 39) [(.iload 4, 0, 0, 0, 0), (.iconst 2, 0, 0, 2, 0)] (by decide +kernel) rfl rfl ?_
    refine sIc_gt oI (off := 104) (tgt := 143) (by decide +kernel) (by decide) (fun _ => ?_) (fun _ => ?_)
    · refine sBk (lo' := [(0, vr 1 0), (1, vi v1), (2, vi v2), (3, vi v3), (4, vi v4)]) (st' := [vi v3]) (μ' := μ) (pc' := 144) [(.iload_n 3, 0, 0, 0, 0)] (by decide +kernel) rfl rfl ?_
      exact sRi (by decide +kernel) (fun h => by cases h)
    · refine sBk (lo' := [(0, vr 1 0), (1, vi v1), (2, vi v2), (3, vi v3), (4, vi v4)]) (st' := [vi (v1 + 1), vr 20 0]) (μ' := μ) (pc' := 49) [(.aload_n 0, 0, 0, 0, 0), (.getfield 11, 0, 0, 0, 0), (.iload_n 1, 0, 0, 0, 0), (.iconst 1, 0, 0, 1, 0), (.iadd, 0, 0, 0, 0)] (by decide +kernel) rfl rfl ?_
      refine sS_aal oI rfl (n := 5) (j := (ix (v1 + 1))) (by decide +kernel) rfl rfl rfl (fun _ => ?_)
      refine sBk (lo' := [(5, vr 5 (4 + (ix (v1 + 1)))), (0, vr 1 0), (1, vi v1), (2, vi v2), (3, vi v3), (4, vi v4)]) (st' := [vi v1, vr 20 0, vr 5 (4 + (ix (v1 + 1)))]) (μ' := μ) (pc' := 59) [(.astore 5, 0, 0, 0, 0), (.aload 5, 0, 0, 0, 0), (.aload_n 0, 0, 0, 0, 0), (.getfield 11, 0, 0, 0, 0), (.iload_n 1, 0, 0, 0, 0)] (by decide +kernel) rfl rfl ?_
      refine sS_aal oI rfl (n := 5) (j := (ix v1)) (by decide +kernel) rfl rfl rfl (fun _ => ?_)
      refine sCvV oI rfl (ci := 4) (q := (5, (4 + (ix (v1 + 1))))) (avs := [vr 5 (4 + (ix v1))]) (rest := []) (tX4_copyFrom (4 + (ix (v1 + 1))) (4 + (ix v1)) μ) (by omega) (by decide +kernel) lk_0_25 yv_X4_copyFrom rfl (by decide) rfl rfl rfl (Nat.le_of_ble_eq_true rfl) (fun μ2 => ?_)
      refine sBk (lo' := [(5, vr 5 (4 + (ix (v1 + 1)))), (0, vr 1 0), (1, vi v1), (2, vi v2), (3, vi v3), (4, vi v4)]) (st' := [vi v2, vr 5 (4 + (ix (v1 + 1)))]) (μ' := μ2) (pc' := 66) [(.aload 5, 0, 0, 0, 0), (.iload_n 2, 0, 0, 0, 0)] (by decide +kernel) rfl rfl ?_
      refine sIf_eq oI (off := 10) (tgt := 76) (by decide +kernel) (by decide) (fun _ => ?_) (fun _ => ?_)
      · refine sBk (lo' := [(5, vr 5 (4 + (ix (v1 + 1)))), (0, vr 1 0), (1, vi v1), (2, vi v2), (3, vi v3), (4, vi v4)]) (st' := [vi (rI μ2 1 0 10), vr 5 (4 + (ix (v1 + 1)))]) (μ' := μ2) (pc' := 80) [(.aload_n 0, 0, 0, 0, 0), (.getfield 120, 0, 10, 0, 0)] (by decide +kernel) rfl rfl ?_
        refine sWk (lo' := [(0, vr 1 0), (1, vi v1), (2, vi v2), (3, vi v3), (4, vi v4), (5, vr 5 (4 + (ix (v1 + 1))))]) [1, 2, 3, 4, 5, 0] rfl ?_
        exact X0_play_J80_ok hd hrec ih v1 v2 v3 v4 (4 + (ix (v1 + 1))) (rI μ2 1 0 10) (4 + (ix (v1 + 1))) μ2
      · refine sBk (lo' := [(5, vr 5 (4 + (ix (v1 + 1)))), (0, vr 1 0), (1, vi v1), (2, vi v2), (3, vi v3), (4, vi v4)]) (st' := [vi (rI μ2 1 0 9), vr 5 (4 + (ix (v1 + 1)))]) (μ' := μ2) (pc' := 73) [(.aload_n 0, 0, 0, 0, 0), (.getfield 117, 0, 9, 0, 0)] (by decide +kernel) rfl rfl ?_
        refine sGt (off := 7) (tgt := 80) (by decide +kernel) (by decide) ?_
        refine sWk (lo' := [(0, vr 1 0), (1, vi v1), (2, vi v2), (3, vi v3), (4, vi v4), (5, vr 5 (4 + (ix (v1 + 1))))]) [1, 2, 3, 4, 5, 0] rfl ?_
        exact X0_play_J80_ok hd hrec ih v1 v2 v3 v4 (4 + (ix (v1 + 1))) (rI μ2 1 0 9) (4 + (ix (v1 + 1))) μ2
def X0_play_J30 (rec : Int32 → sM → Option (Int32 × sM)) (v1 : Int32) (s0 : Int32) (μ : sM) : Option (Int32 × sM) :=
  X0_play_L36 rec fuN v1 s0 0 0 μ
theorem X0_play_J30_ok {rec : Int32 → sM → Option (Int32 × sM)} {d0 : Nat} (hd : 2 ≤ d0) (hrec : ∀ (a1 : Int32) (μ : sM), sMt yX0_play cX0_play 7 (some .int) d0 [vr 1 0, vi a1] μ (oI (rec a1 μ))) (v1 : Int32) (s0 : Int32) (μ : sM) : sOk 0 cX0_play 7 (d0 + 1) false 30 [(0, vr 1 0), (1, vi v1)] [vi s0] μ (oI (X0_play_J30 rec v1 s0 μ)) := by
  unfold X0_play_J30
  refine sBk (lo' := [(4, vi 0), (3, vi 0), (2, vi s0), (0, vr 1 0), (1, vi v1)]) (st' := []) (μ' := μ) (pc' := 36) [(.istore_n 2, 0, 0, 0, 0), (.iconst 0, 0, 0, 0, 0), (.istore_n 3, 0, 0, 0, 0), (.iconst 0, 0, 0, 0, 0), (.istore 4, 0, 0, 0, 0)] (by decide +kernel) rfl rfl ?_
  refine sWk (lo' := [(0, vr 1 0), (1, vi v1), (2, vi s0), (3, vi 0), (4, vi 0)]) [3, 4, 2, 1, 0] rfl ?_
  exact X0_play_L36_ok hd hrec fuN v1 s0 0 0 μ
def X0_play_ (rec : Int32 → sM → Option (Int32 × sM)) (a1 : Int32) (μ : sM) : Option (Int32 × sM) :=
  if a1 < (rI μ 1 0 11) then
    if (irm a1 2) = 0 then
      X0_play_J30 rec a1 1 μ
    else
      X0_play_J30 rec a1 0 μ
  else
    if inb a1 5 = true then
      bI (X0_leadOf (4 + (ix a1)) μ) fun x1 μ2 =>
        some (x1, μ2)
    else none
theorem tX0_play_ {rec : Int32 → sM → Option (Int32 × sM)} {d0 : Nat} (hd : 2 ≤ d0) (hrec : ∀ (a1 : Int32) (μ : sM), sMt yX0_play cX0_play 7 (some .int) d0 [vr 1 0, vi a1] μ (oI (rec a1 μ))) (a1 : Int32) (μ : sM) : sMt yX0_play cX0_play 7 (some .int) (d0 + 1) [vr 1 0, vi a1] μ (oI (X0_play_ rec a1 μ)) := by
  refine sMt_of (own := 0) (bl := false) (by decide +kernel) rfl (Nat.le_of_ble_eq_true rfl) (fun r ρ h => ?_) ?_
  · obtain ⟨q, -, hq⟩ := Option.map_eq_some_iff.mp h
    cases hq
    exact Or.inl rfl
  · unfold X0_play_
    show sOk 0 cX0_play 7 (d0 + 1) false 0 [(0, vr 1 0), (1, vi a1)] [] μ _
    refine sBk (lo' := [(0, vr 1 0), (1, vi a1)]) (st' := [vi (rI μ 1 0 11), vi a1]) (μ' := μ) (pc' := 5) [(.iload_n 1, 0, 0, 0, 0), (.aload_n 0, 0, 0, 0, 0), (.getfield 123, 0, 11, 0, 0)] (by decide +kernel) rfl rfl ?_
    refine sIc_lt oI (off := 14) (tgt := 19) (by decide +kernel) (by decide) (fun _ => ?_) (fun _ => ?_)
    · refine sBk (lo' := [(0, vr 1 0), (1, vi a1)]) (st' := [vi 2, vi a1]) (μ' := μ) (pc' := 21) [(.iload_n 1, 0, 0, 0, 0), (.iconst 2, 0, 0, 2, 0)] (by decide +kernel) rfl rfl ?_
      refine sC_irm (by decide +kernel) (by decide +kernel) ?_
      refine sIf_ne oI (off := 7) (tgt := 29) (by decide +kernel) (by decide) (fun _ => ?_) (fun _ => ?_)
      · refine sBk (lo' := [(0, vr 1 0), (1, vi a1)]) (st' := [vi 0]) (μ' := μ) (pc' := 30) [(.iconst 0, 0, 0, 0, 0)] (by decide +kernel) rfl rfl ?_
        exact X0_play_J30_ok hd hrec a1 0 μ
      · refine sBk (lo' := [(0, vr 1 0), (1, vi a1)]) (st' := [vi 1]) (μ' := μ) (pc' := 26) [(.iconst 1, 0, 0, 1, 0)] (by decide +kernel) rfl rfl ?_
        refine sGt (off := 4) (tgt := 30) (by decide +kernel) (by decide) ?_
        exact X0_play_J30_ok hd hrec a1 1 μ
    · refine sBk (lo' := [(0, vr 1 0), (1, vi a1)]) (st' := [vi a1, vr 20 0, vr 1 0]) (μ' := μ) (pc' := 14) [(.aload_n 0, 0, 0, 0, 0), (.aload_n 0, 0, 0, 0, 0), (.getfield 11, 0, 0, 0, 0), (.iload_n 1, 0, 0, 0, 0)] (by decide +kernel) rfl rfl ?_
      refine sS_aal oI rfl (n := 5) (j := (ix a1)) (by decide +kernel) rfl rfl rfl (fun _ => ?_)
      refine sCvI oI rfl (ci := 0) (q := (1, 0)) (avs := [vr 5 (4 + (ix a1))]) (rest := []) (tX0_leadOf (4 + (ix a1)) μ) (by omega) (by decide +kernel) lk_0_132 yv_X0_leadOf rfl (by decide) rfl rfl rfl (Nat.le_of_ble_eq_true rfl) (fun x1 μ2 => ?_)
      exact sRi (by decide +kernel) (fun h => by cases h)
def X0_playN : Nat → Int32 → sM → Option (Int32 × sM)
  | 0 => fun _ _ => none
  | n + 1 => X0_play_ (X0_playN n)
theorem tX0_playN : ∀ (n : Nat) (a1 : Int32) (μ : sM), sMt yX0_play cX0_play 7 (some .int) (2 + n) [vr 1 0, vi a1] μ (oI (X0_playN n a1 μ))
  | 0, _, _ => fun _ _ h => by cases h
  | n + 1, a1, μ => tX0_play_ (d0 := 2 + n) (by omega) (fun a1 μ => tX0_playN n a1 μ) a1 μ
def X0_play (a1 : Int32) (μ : sM) : Option (Int32 × sM) := X0_playN 6 a1 μ
theorem tX0_play (a1 : Int32) (μ : sM) : sMt yX0_play cX0_play 7 (some .int) 8 [vr 1 0, vi a1] μ (oI (X0_play a1 μ)) := tX0_playN 6 a1 μ
/-! ClockRiver$Ahead.bestLead -/
def X0_bestLead (a1 : Nat) (a2 : Int32) (a3 : Int32) (a4 : Int32) (μ : sM) : Option (Int32 × sM) :=
  bA (X0_copyOf a1 (wI (wI (wI (wI μ 1 0 9 a2) 1 0 10 a3) 1 0 11 (imn a4 4)) 1 0 3 (-1))) fun x1 μ2 =>
    bI (X0_play 0 μ2) fun x3 μ4 =>
      bI (X0_leadOf a1 μ4) fun x5 μ6 =>
        some ((x3 - x5), μ6)
theorem tX0_bestLead (a1 : Nat) (a2 : Int32) (a3 : Int32) (a4 : Int32) (μ : sM) : sMt yX0_bestLead cX0_bestLead 5 (some .int) 9 [vr 1 0, vr 5 a1, vi a2, vi a3, vi a4] μ (oI (X0_bestLead a1 a2 a3 a4 μ)) := by
  refine sMt_of (own := 0) (bl := false) (by decide +kernel) rfl (Nat.le_of_ble_eq_true rfl) (fun r ρ h => ?_) ?_
  · obtain ⟨q, -, hq⟩ := Option.map_eq_some_iff.mp h
    cases hq
    exact Or.inl rfl
  · unfold X0_bestLead
    show sOk 0 cX0_bestLead 5 9 false 0 [(0, vr 1 0), (1, vr 5 a1), (2, vi a2), (3, vi a3), (4, vi a4)] [] μ _
    refine sBk (lo' := [(0, vr 1 0), (1, vr 5 a1), (2, vi a2), (3, vi a3), (4, vi a4)]) (st' := [vi 4, vi a4, vr 1 0]) (μ' := wI (wI μ 1 0 9 a2) 1 0 10 a3) (pc' := 14) [(.aload_n 0, 0, 0, 0, 0), (.iload_n 2, 0, 0, 0, 0), (.putfield 117, 0, 9, 0, 0), (.aload_n 0, 0, 0, 0, 0), (.iload_n 3, 0, 0, 0, 0), (.putfield 120, 0, 10, 0, 0), (.aload_n 0, 0, 0, 0, 0), (.iload 4, 0, 0, 0, 0), (.iconst 4, 0, 0, 4, 0)] (by decide +kernel) rfl rfl ?_
    refine sMin (idx := 75) (p1 := 1276) (by decide +kernel) (by decide) (Nat.le_of_ble_eq_true rfl) ?_
    refine sBk (lo' := [(0, vr 1 0), (1, vr 5 a1), (2, vi a2), (3, vi a3), (4, vi a4)]) (st' := [vr 5 a1, vr 1 0]) (μ' := wI (wI (wI (wI μ 1 0 9 a2) 1 0 10 a3) 1 0 11 (imn a4 4)) 1 0 3 (-1)) (pc' := 27) [(.putfield 123, 0, 11, 0, 0), (.aload_n 0, 0, 0, 0, 0), (.iconst (-1), 0, 0, (-1), 0), (.putfield 126, 0, 3, 0, 0), (.aload_n 0, 0, 0, 0, 0), (.aload_n 1, 0, 0, 0, 0)] (by decide +kernel) rfl rfl ?_
    refine sCvA oI rfl (ci := 0) (q := (1, 0)) (avs := [vr 5 a1]) (rest := []) (tX0_copyOf a1 (wI (wI (wI (wI μ 1 0 9 a2) 1 0 10 a3) 1 0 11 (imn a4 4)) 1 0 3 (-1))) (by decide) (by decide +kernel) lk_0_29 yv_X0_copyOf rfl (by decide) rfl rfl rfl (Nat.le_of_ble_eq_true rfl) (fun x1 μ2 => ?_)
    refine sBk (lo' := [(0, vr 1 0), (1, vr 5 a1), (2, vi a2), (3, vi a3), (4, vi a4)]) (st' := [vi 0, vr 1 0]) (μ' := μ2) (pc' := 33) [(.pop, 0, 0, 0, 0), (.aload_n 0, 0, 0, 0, 0), (.iconst 0, 0, 0, 0, 0)] (by decide +kernel) rfl rfl ?_
    refine sCvI oI rfl (ci := 0) (q := (1, 0)) (avs := [vi 0]) (rest := []) (tX0_play 0 μ2) (by decide) (by decide +kernel) lk_0_129 yv_X0_play rfl (by decide) rfl rfl rfl (Nat.le_of_ble_eq_true rfl) (fun x3 μ4 => ?_)
    refine sBk (lo' := [(0, vr 1 0), (1, vr 5 a1), (2, vi a2), (3, vi a3), (4, vi a4)]) (st' := [vr 5 a1, vr 1 0, vi x3]) (μ' := μ4) (pc' := 38) [(.aload_n 0, 0, 0, 0, 0), (.aload_n 1, 0, 0, 0, 0)] (by decide +kernel) rfl rfl ?_
    refine sCvI oI rfl (ci := 0) (q := (1, 0)) (avs := [vr 5 a1]) (rest := [vi x3]) (tX0_leadOf a1 μ4) (by decide) (by decide +kernel) lk_0_132 yv_X0_leadOf rfl (by decide) rfl rfl rfl (Nat.le_of_ble_eq_true rfl) (fun x5 μ6 => ?_)
    refine sBk (lo' := [(0, vr 1 0), (1, vr 5 a1), (2, vi a2), (3, vi a3), (4, vi a4)]) (st' := [vi (x3 - x5)]) (μ' := μ6) (pc' := 42) [(.isub, 0, 0, 0, 0)] (by decide +kernel) rfl rfl ?_
    exact sRi (by decide +kernel) (fun h => by cases h)
