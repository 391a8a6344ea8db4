theorem lk_12_431 : Cond.methodLink (kRn 12) 431 yX12_whyNoGate ∈ sT := sT_in (n := 2082) (by decide +kernel) rfl
theorem lk_12_434 : Cond.methodLink (kRn 12) 434 yX12_bestOf ∈ sT := sT_in (n := 2087) (by decide +kernel) rfl
theorem lk_12_440 : Cond.methodLink (kRn 12) 440 yX12_laysTurn ∈ sT := sT_in (n := 2110) (by decide +kernel) rfl
theorem lk_12_443 : Cond.methodLink (kRn 12) 443 yX12_hires ∈ sT := sT_in (n := 2106) (by decide +kernel) rfl
theorem lk_12_447 : Cond.methodLink (kRn 12) 447 yX12_takesTurn ∈ sT := sT_in (n := 2114) (by decide +kernel) rfl
theorem lk_12_450 : Cond.methodLink (kRn 12) 450 yX12_isHire ∈ sT := sT_in (n := 2099) (by decide +kernel) rfl
theorem lk_12_453 : Cond.methodLink (kRn 12) 453 yX12_isHired ∈ sT := sT_in (n := 2102) (by decide +kernel) rfl
theorem ys_X12_isHire : yS yX12_isHire cX12_isHire 2 (some .boolean) 2 := ⟨⟨sT_in (n := 2101) (by decide +kernel) rfl, sT_in (n := 149) (by decide +kernel) rfl, by decide +kernel, by decide⟩, sT_in (n := 2100) (by decide +kernel) rfl⟩
theorem yv_X12_bestOf : yV yX12_bestOf cX12_bestOf 7 (some .int) 2 := ⟨⟨sT_in (n := 2090) (by decide +kernel) rfl, sT_in (n := 149) (by decide +kernel) rfl, by decide +kernel, by decide⟩, sT_in (n := 2089) (by decide +kernel) rfl, sT_in (n := 118) (by decide +kernel) rfl⟩
theorem yv_X12_hires : yV yX12_hires cX12_hires 9 none 4 := ⟨⟨sT_in (n := 2109) (by decide +kernel) rfl, sT_in (n := 149) (by decide +kernel) rfl, by decide +kernel, by decide⟩, sT_in (n := 2108) (by decide +kernel) rfl, sT_in (n := 120) (by decide +kernel) rfl⟩
theorem yv_X12_isHired : yV yX12_isHired cX12_isHired 3 (some .boolean) 2 := ⟨⟨sT_in (n := 2105) (by decide +kernel) rfl, sT_in (n := 149) (by decide +kernel) rfl, by decide +kernel, by decide⟩, sT_in (n := 2104) (by decide +kernel) rfl, sT_in (n := 119) (by decide +kernel) rfl⟩
theorem yv_X12_laysTurn : yV yX12_laysTurn cX12_laysTurn 3 none 1 := ⟨⟨sT_in (n := 2113) (by decide +kernel) rfl, sT_in (n := 149) (by decide +kernel) rfl, by decide +kernel, by decide⟩, sT_in (n := 2112) (by decide +kernel) rfl, sT_in (n := 121) (by decide +kernel) rfl⟩
theorem yv_X12_takesTurn : yV yX12_takesTurn cX12_takesTurn 3 none 1 := ⟨⟨sT_in (n := 2117) (by decide +kernel) rfl, sT_in (n := 149) (by decide +kernel) rfl, by decide +kernel, by decide⟩, sT_in (n := 2116) (by decide +kernel) rfl, sT_in (n := 122) (by decide +kernel) rfl⟩
theorem yv_X12_whyNoGate : yV yX12_whyNoGate cX12_whyNoGate 3 (some .int) 2 := ⟨⟨sT_in (n := 2085) (by decide +kernel) rfl, sT_in (n := 149) (by decide +kernel) rfl, by decide +kernel, by decide⟩, sT_in (n := 2084) (by decide +kernel) rfl, sT_in (n := 117) (by decide +kernel) rfl⟩
/-! ClockRiverModel.dryIn -/
def X12_dryIn_J57 (k32 : Int32 → Int32 → Int32 → sM → Option (Int32 × sM)) (v1 : Int32) (v2 : Int32) (v3 : Int32) (μ : sM) : Option (Int32 × sM) :=
  bI (X12_goesHour μ) fun x1 μ2 =>
    k32 v1 v2 (v3 + 1) μ2
theorem X12_dryIn_J57_ok {k32 : Int32 → Int32 → Int32 → sM → Option (Int32 × sM)} (hk32 : ∀ (v1 : Int32) (v2 : Int32) (v3 : Int32) (μ : sM), sOk 12 cX12_dryIn 4 3 false 32 [(0, vr 13 0), (1, vi v1), (2, vi v2), (3, vi v3)] [] μ (oI (k32 v1 v2 v3 μ))) (v1 : Int32) (v2 : Int32) (v3 : Int32) (μ : sM) : sOk 12 cX12_dryIn 4 3 false 57 [(0, vr 13 0), (1, vi v1), (2, vi v2), (3, vi v3)] [] μ (oI (X12_dryIn_J57 k32 v1 v2 v3 μ)) := by
  unfold X12_dryIn_J57
  refine sBk (lo' := [(0, vr 13 0), (1, vi v1), (2, vi v2), (3, vi v3)]) (st' := [vr 13 0]) (μ' := μ) (pc' := 58) [(.aload_n 0, 0, 0, 0, 0)] (by decide +kernel) rfl rfl ?_
  refine sCvI oI rfl (ci := 12) (q := (13, 0)) (avs := []) (rest := []) (tX12_goesHour μ) (by decide) (by decide +kernel) lk_12_382 yv_X12_goesHour rfl (by decide) rfl rfl rfl (Nat.le_of_ble_eq_true rfl) (fun x1 μ2 => ?_)
  refine sBk (lo' := [(3, vi (v3 + 1)), (0, vr 13 0), (1, vi v1), (2, vi v2)]) (st' := []) (μ' := μ2) (pc' := 65) [(.pop, 0, 0, 0, 0), (.iinc 3 1, 0, 0, 1, 0)] (by decide +kernel) rfl rfl ?_
  refine sGt (off := (-33)) (tgt := 32) (by decide +kernel) (by decide) ?_
  refine sWk (lo' := [(0, vr 13 0), (1, vi v1), (2, vi v2), (3, vi (v3 + 1))]) [1, 2, 3, 0] rfl ?_
  exact hk32 v1 v2 (v3 + 1) μ2
def X12_dryIn_J68 (v2 : Int32) (μ : sM) : Option (Int32 × sM) :=
  bV (X12_gives μ) fun μ2 =>
    if 0 ≤ v2 then
      some (v2, μ2)
    else
      bI (X12_refuse 8 μ2) fun x3 μ4 =>
        some (x3, μ4)
theorem X12_dryIn_J68_ok (v2 : Int32) (μ : sM) : sOk 12 cX12_dryIn 4 3 false 68 [(0, vr 13 0), (2, vi v2)] [] μ (oI (X12_dryIn_J68 v2 μ)) := by
  unfold X12_dryIn_J68
  refine sBk (lo' := [(0, vr 13 0), (2, vi v2)]) (st' := [vr 13 0]) (μ' := μ) (pc' := 69) [(.aload_n 0, 0, 0, 0, 0)] (by decide +kernel) rfl rfl ?_
  refine sCvV oI rfl (ci := 12) (q := (13, 0)) (avs := []) (rest := []) (tX12_gives μ) (by decide) (by decide +kernel) lk_12_415 yv_X12_gives rfl (by decide) rfl rfl rfl (Nat.le_of_ble_eq_true rfl) (fun μ2 => ?_)
  refine sBk (lo' := [(0, vr 13 0), (2, vi v2)]) (st' := [vi v2]) (μ' := μ2) (pc' := 73) [(.iload_n 2, 0, 0, 0, 0)] (by decide +kernel) rfl rfl ?_
  refine sIf_ge oI (off := 12) (tgt := 85) (by decide +kernel) (by decide) (fun _ => ?_) (fun _ => ?_)
  · refine sBk (lo' := [(0, vr 13 0), (2, vi v2)]) (st' := [vi v2]) (μ' := μ2) (pc' := 86) [(.iload_n 2, 0, 0, 0, 0)] (by decide +kernel) rfl rfl ?_
    exact sRi (by decide +kernel) (fun h => by cases h)
  · refine sBk (lo' := [(0, vr 13 0), (2, vi v2)]) (st' := [vi 8, vr 13 0]) (μ' := μ2) (pc' := 79) [(.aload_n 0, 0, 0, 0, 0), (.bipush 8, 0, 0, 8, 0)] (by decide +kernel) rfl rfl ?_
    refine sCvI oI rfl (ci := 12) (q := (13, 0)) (avs := [vi 8]) (rest := []) (tX12_refuse 8 μ2) (by decide) (by decide +kernel) lk_12_325 yv_X12_refuse rfl (by decide) rfl rfl rfl (Nat.le_of_ble_eq_true rfl) (fun x3 μ4 => ?_)
    refine sGt (off := 4) (tgt := 86) (by decide +kernel) (by decide) ?_
    exact sRi (by decide +kernel) (fun h => by cases h)
def X12_dryIn_L32 : Nat → Int32 → Int32 → Int32 → sM → Option (Int32 × sM)
  | 0, _, _, _, _ => none
  | n + 1, v1, v2, v3, μ =>
    if 500 < v3 then
      X12_dryIn_J68 v2 μ
    else
      if 0 ≤ v2 then
        X12_dryIn_J68 v2 μ
      else
        if inb (28 + v1) 1740 = true then
          if (rI μ 61 0 (ix (28 + v1))) = 0 then
            X12_dryIn_J57 (X12_dryIn_L32 n) v1 v3 v3 μ
          else
            X12_dryIn_J57 (X12_dryIn_L32 n) v1 v2 v3 μ
        else none
theorem X12_dryIn_L32_ok : ∀ (n : Nat) (v1 : Int32) (v2 : Int32) (v3 : Int32) (μ : sM), sOk 12 cX12_dryIn 4 3 false 32 [(0, vr 13 0), (1, vi v1), (2, vi v2), (3, vi v3)] [] μ (oI (X12_dryIn_L32 n v1 v2 v3 μ)) := by
  intro n
  induction n with
  | zero =>
    intros
    exact sNo
  | succ n ih =>
    intro v1 v2 v3 μ
    unfold X12_dryIn_L32
    refine sBk (lo' := [(0, vr 13 0), (1, vi v1), (2, vi v2), (3, vi v3)]) (st' := [vi 500, vi v3]) (μ' := μ) (pc' := 36) [(.iload_n 3, 0, 0, 0, 0), (.sipush 500, 0, 0, 500, 0)] (by decide +kernel) rfl rfl ?_
    refine sIc_gt oI (off := 32) (tgt := 68) (by decide +kernel) (by decide) (fun _ => ?_) (fun _ => ?_)
    · refine sWk (lo' := [(0, vr 13 0), (2, vi v2)]) [0, 2] rfl ?_
      exact X12_dryIn_J68_ok v2 μ
    · refine sBk (lo' := [(0, vr 13 0), (1, vi v1), (2, vi v2), (3, vi v3)]) (st' := [vi v2]) (μ' := μ) (pc' := 40) [(.iload_n 2, 0, 0, 0, 0)] (by decide +kernel) rfl rfl ?_
      refine sIf_ge oI (off := 28) (tgt := 68) (by decide +kernel) (by decide) (fun _ => ?_) (fun _ => ?_)
      · refine sWk (lo' := [(0, vr 13 0), (2, vi v2)]) [0, 2] rfl ?_
        exact X12_dryIn_J68_ok v2 μ
      · refine sBk (lo' := [(0, vr 13 0), (1, vi v1), (2, vi v2), (3, vi v3)]) (st' := [vi (28 + v1), vr 61 0]) (μ' := μ) (pc' := 51) [(.aload_n 0, 0, 0, 0, 0), (.getfield 35, 12, 20, 0, 0), (.bipush 28, 0, 0, 28, 0), (.iload_n 1, 0, 0, 0, 0), (.iadd, 0, 0, 0, 0)] (by decide +kernel) rfl rfl ?_
        refine sS_ial oI rfl (n := 1740) (j := (ix (28 + v1))) (by decide +kernel) rfl rfl rfl (fun _ => ?_)
        refine sIf_ne oI (off := 5) (tgt := 57) (by decide +kernel) (by decide) (fun _ => ?_) (fun _ => ?_)
        · exact X12_dryIn_J57_ok ih v1 v2 v3 μ
        · refine sBk (lo' := [(2, vi v3), (0, vr 13 0), (1, vi v1), (3, vi v3)]) (st' := []) (μ' := μ) (pc' := 57) [(.iload_n 3, 0, 0, 0, 0), (.istore_n 2, 0, 0, 0, 0)] (by decide +kernel) rfl rfl ?_
          refine sWk (lo' := [(0, vr 13 0), (1, vi v1), (2, vi v3), (3, vi v3)]) [1, 2, 0, 3] rfl ?_
          exact X12_dryIn_J57_ok ih v1 v3 v3 μ
def X12_dryIn (a1 : Int32) (μ : sM) : Option (Int32 × sM) :=
  bI (X12_isReachAt a1 (wI (wI μ 13 0 1 0) 13 0 0 0)) fun x1 μ2 =>
    if x1 = 0 then
      bI (X12_refuse 2 μ2) fun x5 μ6 =>
        some (x5, μ6)
    else
      bV (X12_puts μ2) fun μ4 =>
        X12_dryIn_L32 fuN a1 (-1) 0 μ4
theorem tX12_dryIn (a1 : Int32) (μ : sM) : sMt yX12_dryIn cX12_dryIn 4 (some .int) 3 [vr 13 0, vi a1] μ (oI (X12_dryIn a1 μ)) := by
  refine sMt_of (own := 12) (bl := false) (by decide +kernel) rfl (Nat.le_of_ble_eq_true rfl) (fun r ρ h => ?_) ?_
  · obtain ⟨q, -, hq⟩ := Option.map_eq_some_iff.mp h
    cases hq
    exact Or.inl rfl
  · unfold X12_dryIn
    show sOk 12 cX12_dryIn 4 3 false 0 [(0, vr 13 0), (1, vi a1)] [] μ _
    refine sBk (lo' := [(0, vr 13 0), (1, vi a1)]) (st' := [vi a1, vr 13 0]) (μ' := wI (wI μ 13 0 1 0) 13 0 0 0) (pc' := 12) [(.aload_n 0, 0, 0, 0, 0), (.iconst 0, 0, 0, 0, 0), (.putfield 72, 12, 1, 0, 0), (.aload_n 0, 0, 0, 0, 0), (.iconst 0, 0, 0, 0, 0), (.putfield 75, 12, 0, 0, 0), (.aload_n 0, 0, 0, 0, 0), (.iload_n 1, 0, 0, 0, 0)] (by decide +kernel) rfl rfl ?_
    refine sCvI oI rfl (ci := 12) (q := (13, 0)) (avs := [vi a1]) (rest := []) (tX12_isReachAt a1 (wI (wI μ 13 0 1 0) 13 0 0 0)) (by decide) (by decide +kernel) lk_12_339 yv_X12_isReachAt rfl (by decide) rfl rfl rfl (Nat.le_of_ble_eq_true rfl) (fun x1 μ2 => ?_)
    refine sIf_ne oI (off := 9) (tgt := 24) (by decide +kernel) (by decide) (fun _ => ?_) (fun _ => ?_)
    · refine sBk (lo' := [(2, vi (-1)), (0, vr 13 0), (1, vi a1)]) (st' := [vr 13 0]) (μ' := μ2) (pc' := 27) [(.iconst (-1), 0, 0, (-1), 0), (.istore_n 2, 0, 0, 0, 0), (.aload_n 0, 0, 0, 0, 0)] (by decide +kernel) rfl rfl ?_
      refine sCvV oI rfl (ci := 12) (q := (13, 0)) (avs := []) (rest := []) (tX12_puts μ2) (by decide) (by decide +kernel) lk_12_412 yv_X12_puts rfl (by decide) rfl rfl rfl (Nat.le_of_ble_eq_true rfl) (fun μ4 => ?_)
      refine sBk (lo' := [(3, vi 0), (2, vi (-1)), (0, vr 13 0), (1, vi a1)]) (st' := []) (μ' := μ4) (pc' := 32) [(.iconst 0, 0, 0, 0, 0), (.istore_n 3, 0, 0, 0, 0)] (by decide +kernel) rfl rfl ?_
      refine sWk (lo' := [(0, vr 13 0), (1, vi a1), (2, vi (-1)), (3, vi 0)]) [2, 3, 1, 0] rfl ?_
      exact X12_dryIn_L32_ok fuN a1 (-1) 0 μ4
    · refine sBk (lo' := [(0, vr 13 0), (1, vi a1)]) (st' := [vi 2, vr 13 0]) (μ' := μ2) (pc' := 20) [(.aload_n 0, 0, 0, 0, 0), (.iconst 2, 0, 0, 2, 0)] (by decide +kernel) rfl rfl ?_
      refine sCvI oI rfl (ci := 12) (q := (13, 0)) (avs := [vi 2]) (rest := []) (tX12_refuse 2 μ2) (by decide) (by decide +kernel) lk_12_325 yv_X12_refuse rfl (by decide) rfl rfl rfl (Nat.le_of_ble_eq_true rfl) (fun x5 μ6 => ?_)
      exact sRi (by decide +kernel) (fun h => by cases h)
/-! ClockRiverModel.floodIn -/
def X12_floodIn_J59 (k32 : Int32 → Int32 → Int32 → sM → Option (Int32 × sM)) (v1 : Int32) (v2 : Int32) (v3 : Int32) (μ : sM) : Option (Int32 × sM) :=
  k32 v1 v2 (v3 + 1) μ
theorem X12_floodIn_J59_ok {k32 : Int32 → Int32 → Int32 → sM → Option (Int32 × sM)} (hk32 : ∀ (v1 : Int32) (v2 : Int32) (v3 : Int32) (μ : sM), sOk 12 cX12_floodIn 4 3 false 32 [(0, vr 13 0), (1, vi v1), (2, vi v2), (3, vi v3)] [] μ (oI (k32 v1 v2 v3 μ))) (v1 : Int32) (v2 : Int32) (v3 : Int32) (μ : sM) : sOk 12 cX12_floodIn 4 3 false 59 [(0, vr 13 0), (1, vi v1), (2, vi v2), (3, vi v3)] [] μ (oI (X12_floodIn_J59 k32 v1 v2 v3 μ)) := by
  unfold X12_floodIn_J59
  refine sBk (lo' := [(3, vi (v3 + 1)), (0, vr 13 0), (1, vi v1), (2, vi v2)]) (st' := []) (μ' := μ) (pc' := 62) [(.iinc 3 1, 0, 0, 1, 0)] (by decide +kernel) rfl rfl ?_
  refine sGt (off := (-30)) (tgt := 32) (by decide +kernel) (by decide) ?_
  refine sWk (lo' := [(0, vr 13 0), (1, vi v1), (2, vi v2), (3, vi (v3 + 1))]) [1, 2, 3, 0] rfl ?_
  exact hk32 v1 v2 (v3 + 1) μ
def X12_floodIn_J65 (v2 : Int32) (μ : sM) : Option (Int32 × sM) :=
  bV (X12_gives μ) fun μ2 =>
    if 0 ≤ v2 then
      some (v2, μ2)
    else
      bI (X12_refuse 8 μ2) fun x3 μ4 =>
        some (x3, μ4)
theorem X12_floodIn_J65_ok (v2 : Int32) (μ : sM) : sOk 12 cX12_floodIn 4 3 false 65 [(0, vr 13 0), (2, vi v2)] [] μ (oI (X12_floodIn_J65 v2 μ)) := by
  unfold X12_floodIn_J65
  refine sBk (lo' := [(0, vr 13 0), (2, vi v2)]) (st' := [vr 13 0]) (μ' := μ) (pc' := 66) [(.aload_n 0, 0, 0, 0, 0)] (by decide +kernel) rfl rfl ?_
  refine sCvV oI rfl (ci := 12) (q := (13, 0)) (avs := []) (rest := []) (tX12_gives μ) (by decide) (by decide +kernel) lk_12_415 yv_X12_gives rfl (by decide) rfl rfl rfl (Nat.le_of_ble_eq_true rfl) (fun μ2 => ?_)
  refine sBk (lo' := [(0, vr 13 0), (2, vi v2)]) (st' := [vi v2]) (μ' := μ2) (pc' := 70) [(.iload_n 2, 0, 0, 0, 0)] (by decide +kernel) rfl rfl ?_
  refine sIf_ge oI (off := 12) (tgt := 82) (by decide +kernel) (by decide) (fun _ => ?_) (fun _ => ?_)
  · refine sBk (lo' := [(0, vr 13 0), (2, vi v2)]) (st' := [vi v2]) (μ' := μ2) (pc' := 83) [(.iload_n 2, 0, 0, 0, 0)] (by decide +kernel) rfl rfl ?_
    exact sRi (by decide +kernel) (fun h => by cases h)
  · refine sBk (lo' := [(0, vr 13 0), (2, vi v2)]) (st' := [vi 8, vr 13 0]) (μ' := μ2) (pc' := 76) [(.aload_n 0, 0, 0, 0, 0), (.bipush 8, 0, 0, 8, 0)] (by decide +kernel) rfl rfl ?_
    refine sCvI oI rfl (ci := 12) (q := (13, 0)) (avs := [vi 8]) (rest := []) (tX12_refuse 8 μ2) (by decide) (by decide +kernel) lk_12_325 yv_X12_refuse rfl (by decide) rfl rfl rfl (Nat.le_of_ble_eq_true rfl) (fun x3 μ4 => ?_)
    refine sGt (off := 4) (tgt := 83) (by decide +kernel) (by decide) ?_
    exact sRi (by decide +kernel) (fun h => by cases h)
def X12_floodIn_L32 : Nat → Int32 → Int32 → Int32 → sM → Option (Int32 × sM)
  | 0, _, _, _, _ => none
  | n + 1, v1, v2, v3, μ =>
    if 500 ≤ v3 then
      X12_floodIn_J65 v2 μ
    else
      if 0 ≤ v2 then
        X12_floodIn_J65 v2 μ
      else
        bI (X12_goesHour μ) fun x1 μ2 =>
          if inb v1 6 = true then
            if (rI μ2 66 0 (ix v1)) ≤ 0 then
              X12_floodIn_J59 (X12_floodIn_L32 n) v1 v2 v3 μ2
            else
              X12_floodIn_J59 (X12_floodIn_L32 n) v1 v3 v3 μ2
          else none
theorem X12_floodIn_L32_ok : ∀ (n : Nat) (v1 : Int32) (v2 : Int32) (v3 : Int32) (μ : sM), sOk 12 cX12_floodIn 4 3 false 32 [(0, vr 13 0), (1, vi v1), (2, vi v2), (3, vi v3)] [] μ (oI (X12_floodIn_L32 n v1 v2 v3 μ)) := by
  intro n
  induction n with
  | zero =>
    intros
    exact sNo
  | succ n ih =>
    intro v1 v2 v3 μ
    unfold X12_floodIn_L32
    refine sBk (lo' := [(0, vr 13 0), (1, vi v1), (2, vi v2), (3, vi v3)]) (st' := [vi 500, vi v3]) (μ' := μ) (pc' := 36) [(.iload_n 3, 0, 0, 0, 0), (.sipush 500, 0, 0, 500, 0)] (by decide +kernel) rfl rfl ?_
    refine sIc_ge oI (off := 29) (tgt := 65) (by decide +kernel) (by decide) (fun _ => ?_) (fun _ => ?_)
    · refine sWk (lo' := [(0, vr 13 0), (2, vi v2)]) [0, 2] rfl ?_
      exact X12_floodIn_J65_ok v2 μ
    · refine sBk (lo' := [(0, vr 13 0), (1, vi v1), (2, vi v2), (3, vi v3)]) (st' := [vi v2]) (μ' := μ) (pc' := 40) [(.iload_n 2, 0, 0, 0, 0)] (by decide +kernel) rfl rfl ?_
      refine sIf_ge oI (off := 25) (tgt := 65) (by decide +kernel) (by decide) (fun _ => ?_) (fun _ => ?_)
      · refine sWk (lo' := [(0, vr 13 0), (2, vi v2)]) [0, 2] rfl ?_
        exact X12_floodIn_J65_ok v2 μ
      · refine sBk (lo' := [(0, vr 13 0), (1, vi v1), (2, vi v2), (3, vi v3)]) (st' := [vr 13 0]) (μ' := μ) (pc' := 44) [(.aload_n 0, 0, 0, 0, 0)] (by decide +kernel) rfl rfl ?_
        refine sCvI oI rfl (ci := 12) (q := (13, 0)) (avs := []) (rest := []) (tX12_goesHour μ) (by decide) (by decide +kernel) lk_12_382 yv_X12_goesHour rfl (by decide) rfl rfl rfl (Nat.le_of_ble_eq_true rfl) (fun x1 μ2 => ?_)
        refine sBk (lo' := [(0, vr 13 0), (1, vi v1), (2, vi v2), (3, vi v3)]) (st' := [vi v1, vr 66 0]) (μ' := μ2) (pc' := 53) [(.pop, 0, 0, 0, 0), (.aload_n 0, 0, 0, 0, 0), (.getfield 50, 12, 28, 0, 0), (.iload_n 1, 0, 0, 0, 0)] (by decide +kernel) rfl rfl ?_
        refine sS_ial oI rfl (n := 6) (j := (ix v1)) (by decide +kernel) rfl rfl rfl (fun _ => ?_)
        refine sIf_le oI (off := 5) (tgt := 59) (by decide +kernel) (by decide) (fun _ => ?_) (fun _ => ?_)
        · exact X12_floodIn_J59_ok ih v1 v2 v3 μ2
        · refine sBk (lo' := [(2, vi v3), (0, vr 13 0), (1, vi v1), (3, vi v3)]) (st' := []) (μ' := μ2) (pc' := 59) [(.iload_n 3, 0, 0, 0, 0), (.istore_n 2, 0, 0, 0, 0)] (by decide +kernel) rfl rfl ?_
          refine sWk (lo' := [(0, vr 13 0), (1, vi v1), (2, vi v3), (3, vi v3)]) [1, 2, 0, 3] rfl ?_
          exact X12_floodIn_J59_ok ih v1 v3 v3 μ2
def X12_floodIn (a1 : Int32) (μ : sM) : Option (Int32 × sM) :=
  bI (X12_isReachAt a1 (wI (wI μ 13 0 1 0) 13 0 0 0)) fun x1 μ2 =>
    if x1 = 0 then
      bI (X12_refuse 2 μ2) fun x5 μ6 =>
        some (x5, μ6)
    else
      bV (X12_puts μ2) fun μ4 =>
        X12_floodIn_L32 fuN a1 (-1) 0 μ4
theorem tX12_floodIn (a1 : Int32) (μ : sM) : sMt yX12_floodIn cX12_floodIn 4 (some .int) 3 [vr 13 0, vi a1] μ (oI (X12_floodIn a1 μ)) := by
  refine sMt_of (own := 12) (bl := false) (by decide +kernel) rfl (Nat.le_of_ble_eq_true rfl) (fun r ρ h => ?_) ?_
  · obtain ⟨q, -, hq⟩ := Option.map_eq_some_iff.mp h
    cases hq
    exact Or.inl rfl
  · unfold X12_floodIn
    show sOk 12 cX12_floodIn 4 3 false 0 [(0, vr 13 0), (1, vi a1)] [] μ _
    refine sBk (lo' := [(0, vr 13 0), (1, vi a1)]) (st' := [vi a1, vr 13 0]) (μ' := wI (wI μ 13 0 1 0) 13 0 0 0) (pc' := 12) [(.aload_n 0, 0, 0, 0, 0), (.iconst 0, 0, 0, 0, 0), (.putfield 72, 12, 1, 0, 0), (.aload_n 0, 0, 0, 0, 0), (.iconst 0, 0, 0, 0, 0), (.putfield 75, 12, 0, 0, 0), (.aload_n 0, 0, 0, 0, 0), (.iload_n 1, 0, 0, 0, 0)] (by decide +kernel) rfl rfl ?_
    refine sCvI oI rfl (ci := 12) (q := (13, 0)) (avs := [vi a1]) (rest := []) (tX12_isReachAt a1 (wI (wI μ 13 0 1 0) 13 0 0 0)) (by decide) (by decide +kernel) lk_12_339 yv_X12_isReachAt rfl (by decide) rfl rfl rfl (Nat.le_of_ble_eq_true rfl) (fun x1 μ2 => ?_)
    refine sIf_ne oI (off := 9) (tgt := 24) (by decide +kernel) (by decide) (fun _ => ?_) (fun _ => ?_)
    · refine sBk (lo' := [(2, vi (-1)), (0, vr 13 0), (1, vi a1)]) (st' := [vr 13 0]) (μ' := μ2) (pc' := 27) [(.iconst (-1), 0, 0, (-1), 0), (.istore_n 2, 0, 0, 0, 0), (.aload_n 0, 0, 0, 0, 0)] (by decide +kernel) rfl rfl ?_
      refine sCvV oI rfl (ci := 12) (q := (13, 0)) (avs := []) (rest := []) (tX12_puts μ2) (by decide) (by decide +kernel) lk_12_412 yv_X12_puts rfl (by decide) rfl rfl rfl (Nat.le_of_ble_eq_true rfl) (fun μ4 => ?_)
      refine sBk (lo' := [(3, vi 0), (2, vi (-1)), (0, vr 13 0), (1, vi a1)]) (st' := []) (μ' := μ4) (pc' := 32) [(.iconst 0, 0, 0, 0, 0), (.istore_n 3, 0, 0, 0, 0)] (by decide +kernel) rfl rfl ?_
      refine sWk (lo' := [(0, vr 13 0), (1, vi a1), (2, vi (-1)), (3, vi 0)]) [2, 3, 1, 0] rfl ?_
      exact X12_floodIn_L32_ok fuN a1 (-1) 0 μ4
    · refine sBk (lo' := [(0, vr 13 0), (1, vi a1)]) (st' := [vi 2, vr 13 0]) (μ' := μ2) (pc' := 20) [(.aload_n 0, 0, 0, 0, 0), (.iconst 2, 0, 0, 2, 0)] (by decide +kernel) rfl rfl ?_
      refine sCvI oI rfl (ci := 12) (q := (13, 0)) (avs := [vi 2]) (rest := []) (tX12_refuse 2 μ2) (by decide) (by decide +kernel) lk_12_325 yv_X12_refuse rfl (by decide) rfl rfl rfl (Nat.le_of_ble_eq_true rfl) (fun x5 μ6 => ?_)
      exact sRi (by decide +kernel) (fun h => by cases h)
/-! ClockRiverModel.stillIn -/
def X12_stillIn_L20 : Nat → Int32 → Int32 → sM → Option (Int32 × sM)
  | 0, _, _, _ => none
  | n + 1, v1, v2, μ =>
    if 200 ≤ v2 then
      bI (X12_refuse 8 μ) fun x1 μ2 =>
        some (x1, μ2)
    else
      if v1 = 0 then
        some (v2, μ)
      else
        bI (X12_slackNow ((rI μ 61 0 8) - v2) μ) fun x3 μ4 =>
          bI (X12_slackened v1 x3 μ4) fun x5 μ6 =>
            X12_stillIn_L20 n x5 (v2 + 1) μ6
theorem X12_stillIn_L20_ok : ∀ (n : Nat) (v1 : Int32) (v2 : Int32) (μ : sM), sOk 12 cX12_stillIn 3 2 false 20 [(0, vr 13 0), (1, vi v1), (2, vi v2)] [] μ (oI (X12_stillIn_L20 n v1 v2 μ)) := by
  intro n
  induction n with
  | zero =>
    intros
    exact sNo
  | succ n ih =>
    intro v1 v2 μ
    unfold X12_stillIn_L20
    refine sBk (lo' := [(0, vr 13 0), (1, vi v1), (2, vi v2)]) (st' := [vi 200, vi v2]) (μ' := μ) (pc' := 24) [(.iload_n 2, 0, 0, 0, 0), (.sipush 200, 0, 0, 200, 0)] (by decide +kernel) rfl rfl ?_
    refine sIc_ge oI (off := 33) (tgt := 57) (by decide +kernel) (by decide) (fun _ => ?_) (fun _ => ?_)
    · refine sBk (lo' := [(0, vr 13 0), (1, vi v1), (2, vi v2)]) (st' := [vi 8, vr 13 0]) (μ' := μ) (pc' := 60) [(.aload_n 0, 0, 0, 0, 0), (.bipush 8, 0, 0, 8, 0)] (by decide +kernel) rfl rfl ?_
      refine sCvI oI rfl (ci := 12) (q := (13, 0)) (avs := [vi 8]) (rest := []) (tX12_refuse 8 μ) (by decide) (by decide +kernel) lk_12_325 yv_X12_refuse rfl (by decide) rfl rfl rfl (Nat.le_of_ble_eq_true rfl) (fun x1 μ2 => ?_)
      exact sRi (by decide +kernel) (fun h => by cases h)
    · refine sBk (lo' := [(0, vr 13 0), (1, vi v1), (2, vi v2)]) (st' := [vi v1]) (μ' := μ) (pc' := 28) [(.iload_n 1, 0, 0, 0, 0)] (by decide +kernel) rfl rfl ?_
      refine sIf_ne oI (off := 5) (tgt := 33) (by decide +kernel) (by decide) (fun _ => ?_) (fun _ => ?_)
      · refine sBk (lo' := [(0, vr 13 0), (1, vi v1), (2, vi v2)]) (st' := [vi 8, vr 61 0, vr 13 0, vi v1]) (μ' := μ) (pc' := 41) [(.iload_n 1, 0, 0, 0, 0), (.aload_n 0, 0, 0, 0, 0), (.aload_n 0, 0, 0, 0, 0), (.getfield 35, 12, 20, 0, 0), (.bipush 8, 0, 0, 8, 0)] (by decide +kernel) rfl rfl ?_
        refine sC_ial (n := 1740) (j := 8) (by decide +kernel) (by decide +kernel) rfl rfl (by decide +kernel) ?_
        refine sBk (lo' := [(0, vr 13 0), (1, vi v1), (2, vi v2)]) (st' := [vi ((rI μ 61 0 8) - v2), vr 13 0, vi v1]) (μ' := μ) (pc' := 44) [(.iload_n 2, 0, 0, 0, 0), (.isub, 0, 0, 0, 0)] (by decide +kernel) rfl rfl ?_
        refine sCvI oI rfl (ci := 12) (q := (13, 0)) (avs := [vi ((rI μ 61 0 8) - v2)]) (rest := [vi v1]) (tX12_slackNow ((rI μ 61 0 8) - v2) μ) (by decide) (by decide +kernel) lk_12_374 yv_X12_slackNow rfl (by decide) rfl rfl rfl (Nat.le_of_ble_eq_true rfl) (fun x3 μ4 => ?_)
        refine sCsI oI rfl (avs := [vi v1, vi x3]) (rest := []) (tX12_slackened v1 x3 μ4) (by decide) (by decide +kernel) lk_12_377 ys_X12_slackened rfl rfl (Nat.le_of_ble_eq_true rfl) (fun x5 μ6 => ?_)
        refine sBk (lo' := [(2, vi (v2 + 1)), (1, vi x5), (0, vr 13 0)]) (st' := []) (μ' := μ6) (pc' := 54) [(.istore_n 1, 0, 0, 0, 0), (.iinc 2 1, 0, 0, 1, 0)] (by decide +kernel) rfl rfl ?_
        refine sGt (off := (-34)) (tgt := 20) (by decide +kernel) (by decide) ?_
        refine sWk (lo' := [(0, vr 13 0), (1, vi x5), (2, vi (v2 + 1))]) [2, 1, 0] rfl ?_
        exact ih x5 (v2 + 1) μ6
      · refine sBk (lo' := [(0, vr 13 0), (1, vi v1), (2, vi v2)]) (st' := [vi v2]) (μ' := μ) (pc' := 32) [(.iload_n 2, 0, 0, 0, 0)] (by decide +kernel) rfl rfl ?_
        exact sRi (by decide +kernel) (fun h => by cases h)
def X12_stillIn (μ : sM) : Option (Int32 × sM) :=
  X12_stillIn_L20 fuN (rI μ 61 0 9) 0 (wI (wI μ 13 0 1 0) 13 0 0 0)
theorem tX12_stillIn (μ : sM) : sMt yX12_stillIn cX12_stillIn 3 (some .int) 2 [vr 13 0] μ (oI (X12_stillIn μ)) := by
  refine sMt_of (own := 12) (bl := false) (by decide +kernel) rfl (Nat.le_of_ble_eq_true rfl) (fun r ρ h => ?_) ?_
  · obtain ⟨q, -, hq⟩ := Option.map_eq_some_iff.mp h
    cases hq
    exact Or.inl rfl
  · unfold X12_stillIn
    show sOk 12 cX12_stillIn 3 2 false 0 [(0, vr 13 0)] [] μ _
    refine sBk (lo' := [(0, vr 13 0)]) (st' := [vi 9, vr 61 0]) (μ' := wI (wI μ 13 0 1 0) 13 0 0 0) (pc' := 16) [(.aload_n 0, 0, 0, 0, 0), (.iconst 0, 0, 0, 0, 0), (.putfield 72, 12, 1, 0, 0), (.aload_n 0, 0, 0, 0, 0), (.iconst 0, 0, 0, 0, 0), (.putfield 75, 12, 0, 0, 0), (.aload_n 0, 0, 0, 0, 0), (.getfield 35, 12, 20, 0, 0), (.bipush 9, 0, 0, 9, 0)] (by decide +kernel) rfl rfl ?_
    refine sC_ial (n := 1740) (j := 9) (by decide +kernel) (by decide +kernel) rfl rfl (by decide +kernel) ?_
    refine sBk (lo' := [(2, vi 0), (1, vi (rI μ 61 0 9)), (0, vr 13 0)]) (st' := []) (μ' := wI (wI μ 13 0 1 0) 13 0 0 0) (pc' := 20) [(.istore_n 1, 0, 0, 0, 0), (.iconst 0, 0, 0, 0, 0), (.istore_n 2, 0, 0, 0, 0)] (by decide +kernel) rfl rfl ?_
    refine sWk (lo' := [(0, vr 13 0), (1, vi (rI μ 61 0 9)), (2, vi 0)]) [2, 1, 0] rfl ?_
    exact X12_stillIn_L20_ok fuN (rI μ 61 0 9) 0 (wI (wI μ 13 0 1 0) 13 0 0 0)
/-! ClockRiverModel.lawIn -/
def X12_lawIn (μ : sM) : Option (Int32 × sM) :=
  bI (X12_isSeventh (wI (wI μ 13 0 1 0) 13 0 0 0)) fun x1 μ2 =>
    if x1 = 0 then
      some (0, μ2)
    else
      some ((24 - (irm (rI μ2 61 0 6) 24)), μ2)
theorem tX12_lawIn (μ : sM) : sMt yX12_lawIn cX12_lawIn 1 (some .int) 3 [vr 13 0] μ (oI (X12_lawIn μ)) := by
  refine sMt_of (own := 12) (bl := false) (by decide +kernel) rfl (Nat.le_of_ble_eq_true rfl) (fun r ρ h => ?_) ?_
  · obtain ⟨q, -, hq⟩ := Option.map_eq_some_iff.mp h
    cases hq
    exact Or.inl rfl
  · unfold X12_lawIn
    show sOk 12 cX12_lawIn 1 3 false 0 [(0, vr 13 0)] [] μ _
    refine sBk (lo' := [(0, vr 13 0)]) (st' := [vr 13 0]) (μ' := wI (wI μ 13 0 1 0) 13 0 0 0) (pc' := 11) [(.aload_n 0, 0, 0, 0, 0), (.iconst 0, 0, 0, 0, 0), (.putfield 72, 12, 1, 0, 0), (.aload_n 0, 0, 0, 0, 0), (.iconst 0, 0, 0, 0, 0), (.putfield 75, 12, 0, 0, 0), (.aload_n 0, 0, 0, 0, 0)] (by decide +kernel) rfl rfl ?_
    refine sCvI oI rfl (ci := 12) (q := (13, 0)) (avs := []) (rest := []) (tX12_isSeventh (wI (wI μ 13 0 1 0) 13 0 0 0)) (by decide) (by decide +kernel) lk_12_385 yv_X12_isSeventh rfl (by decide) rfl rfl rfl (Nat.le_of_ble_eq_true rfl) (fun x1 μ2 => ?_)
    refine sIf_eq oI (off := 19) (tgt := 33) (by decide +kernel) (by decide) (fun _ => ?_) (fun _ => ?_)
    · refine sBk (lo' := [(0, vr 13 0)]) (st' := [vi 0]) (μ' := μ2) (pc' := 34) [(.iconst 0, 0, 0, 0, 0)] (by decide +kernel) rfl rfl ?_
      exact sRi (by decide +kernel) (fun h => by cases h)
    · refine sBk (lo' := [(0, vr 13 0)]) (st' := [vi 6, vr 61 0, vi 24]) (μ' := μ2) (pc' := 25) [(.bipush 24, 0, 0, 24, 0), (.aload_n 0, 0, 0, 0, 0), (.getfield 35, 12, 20, 0, 0), (.bipush 6, 0, 0, 6, 0)] (by decide +kernel) rfl rfl ?_
      refine sC_ial (n := 1740) (j := 6) (by decide +kernel) (by decide +kernel) rfl rfl (by decide +kernel) ?_
      refine sBk (lo' := [(0, vr 13 0)]) (st' := [vi 24, vi (rI μ2 61 0 6), vi 24]) (μ' := μ2) (pc' := 28) [(.bipush 24, 0, 0, 24, 0)] (by decide +kernel) rfl rfl ?_
      refine sC_irm (by decide +kernel) (by decide +kernel) ?_
      refine sBk (lo' := [(0, vr 13 0)]) (st' := [vi (24 - (irm (rI μ2 61 0 6) 24))]) (μ' := μ2) (pc' := 30) [(.isub, 0, 0, 0, 0)] (by decide +kernel) rfl rfl ?_
      refine sGt (off := 4) (tgt := 34) (by decide +kernel) (by decide) ?_
      exact sRi (by decide +kernel) (fun h => by cases h)
/-! ClockRiverModel.enough -/
def X12_enough_J47 (μ : sM) : Option (Int32 × sM) :=
  bI (X12_refuse 5 μ) fun x1 μ2 =>
    some (x1, μ2)
theorem X12_enough_J47_ok (μ : sM) : sOk 12 cX12_enough 7 4 false 47 [(0, vr 13 0)] [] μ (oI (X12_enough_J47 μ)) := by
  unfold X12_enough_J47
  refine sBk (lo' := [(0, vr 13 0)]) (st' := [vi 5, vr 13 0]) (μ' := μ) (pc' := 49) [(.aload_n 0, 0, 0, 0, 0), (.iconst 5, 0, 0, 5, 0)] (by decide +kernel) rfl rfl ?_
  refine sCvI oI rfl (ci := 12) (q := (13, 0)) (avs := [vi 5]) (rest := []) (tX12_refuse 5 μ) (by decide) (by decide +kernel) lk_12_325 yv_X12_refuse rfl (by decide) rfl rfl rfl (Nat.le_of_ble_eq_true rfl) (fun x1 μ2 => ?_)
  exact sRi (by decide +kernel) (fun h => by cases h)
def X12_enough_J116 (k68 : Int32 → Int32 → Int32 → Int32 → Int32 → Int32 → sM → Option (Int32 × sM)) (v1 : Int32) (v2 : Int32) (v3 : Int32) (v4 : Int32) (v5 : Int32) (v6 : Int32) (μ : sM) : Option (Int32 × sM) :=
  k68 v1 v2 v3 v4 v5 (v6 + 1) μ
theorem X12_enough_J116_ok {k68 : Int32 → Int32 → Int32 → Int32 → Int32 → Int32 → sM → Option (Int32 × sM)} (hk68 : ∀ (v1 : Int32) (v2 : Int32) (v3 : Int32) (v4 : Int32) (v5 : Int32) (v6 : Int32) (μ : sM), sOk 12 cX12_enough 7 4 false 68 [(0, vr 13 0), (1, vi v1), (2, vi v2), (3, vi v3), (4, vi v4), (5, vi v5), (6, vi v6)] [] μ (oI (k68 v1 v2 v3 v4 v5 v6 μ))) (v1 : Int32) (v2 : Int32) (v3 : Int32) (v4 : Int32) (v5 : Int32) (v6 : Int32) (μ : sM) : sOk 12 cX12_enough 7 4 false 116 [(0, vr 13 0), (1, vi v1), (2, vi v2), (3, vi v3), (4, vi v4), (5, vi v5), (6, vi v6)] [] μ (oI (X12_enough_J116 k68 v1 v2 v3 v4 v5 v6 μ)) := by
  unfold X12_enough_J116
  refine sBk (lo' := [(6, vi (v6 + 1)), (0, vr 13 0), (1, vi v1), (2, vi v2), (3, vi v3), (4, vi v4), (5, vi v5)]) (st' := []) (μ' := μ) (pc' := 119) [(.iinc 6 1, 0, 0, 1, 0)] (by decide +kernel) rfl rfl ?_
  refine sGt (off := (-51)) (tgt := 68) (by decide +kernel) (by decide) ?_
  refine sWk (lo' := [(0, vr 13 0), (1, vi v1), (2, vi v2), (3, vi v3), (4, vi v4), (5, vi v5), (6, vi (v6 + 1))]) [1, 2, 3, 4, 5, 6, 0] rfl ?_
  exact hk68 v1 v2 v3 v4 v5 (v6 + 1) μ
def X12_enough_J122 (v4 : Int32) (v5 : Int32) (μ : sM) : Option (Int32 × sM) :=
  if 0 ≤ v5 then
    some (v5, wI μ 61 0 9 v4)
  else
    bI (X12_refuse 8 (wI μ 61 0 9 v4)) fun x1 μ2 =>
      some (x1, μ2)
theorem X12_enough_J122_ok (v4 : Int32) (v5 : Int32) (μ : sM) : sOk 12 cX12_enough 7 4 false 122 [(0, vr 13 0), (4, vi v4), (5, vi v5)] [] μ (oI (X12_enough_J122 v4 v5 μ)) := by
  unfold X12_enough_J122
  refine sBk (lo' := [(0, vr 13 0), (4, vi v4), (5, vi v5)]) (st' := [vi v4, vi 9, vr 61 0]) (μ' := μ) (pc' := 130) [(.aload_n 0, 0, 0, 0, 0), (.getfield 35, 12, 20, 0, 0), (.bipush 9, 0, 0, 9, 0), (.iload 4, 0, 0, 0, 0)] (by decide +kernel) rfl rfl ?_
  refine sC_ias (n := 1740) (j := 9) (by decide +kernel) (by decide +kernel) rfl rfl (by decide +kernel) ?_
  refine sBk (lo' := [(0, vr 13 0), (4, vi v4), (5, vi v5)]) (st' := [vi v5]) (μ' := wI μ 61 0 9 v4) (pc' := 133) [(.iload 5, 0, 0, 0, 0)] (by decide +kernel) rfl rfl ?_
  refine sIf_ge oI (off := 12) (tgt := 145) (by decide +kernel) (by decide) (fun _ => ?_) (fun _ => ?_)
  · refine sBk (lo' := [(0, vr 13 0), (4, vi v4), (5, vi v5)]) (st' := [vi v5]) (μ' := wI μ 61 0 9 v4) (pc' := 147) [(.iload 5, 0, 0, 0, 0)] (by decide +kernel) rfl rfl ?_
    exact sRi (by decide +kernel) (fun h => by cases h)
  · refine sBk (lo' := [(0, vr 13 0), (4, vi v4), (5, vi v5)]) (st' := [vi 8, vr 13 0]) (μ' := wI μ 61 0 9 v4) (pc' := 139) [(.aload_n 0, 0, 0, 0, 0), (.bipush 8, 0, 0, 8, 0)] (by decide +kernel) rfl rfl ?_
    refine sCvI oI rfl (ci := 12) (q := (13, 0)) (avs := [vi 8]) (rest := []) (tX12_refuse 8 (wI μ 61 0 9 v4)) (by decide) (by decide +kernel) lk_12_325 yv_X12_refuse rfl (by decide) rfl rfl rfl (Nat.le_of_ble_eq_true rfl) (fun x1 μ2 => ?_)
    refine sGt (off := 5) (tgt := 147) (by decide +kernel) (by decide) ?_
    exact sRi (by decide +kernel) (fun h => by cases h)
def X12_enough_L68 : Nat → Int32 → Int32 → Int32 → Int32 → Int32 → Int32 → sM → Option (Int32 × sM)
  | 0, _, _, _, _, _, _, _ => none
  | n + 1, v1, v2, v3, v4, v5, v6, μ =>
    if 60 < v6 then
      X12_enough_J122 v4 v5 μ
    else
      if 0 ≤ v5 then
        X12_enough_J122 v4 v5 μ
      else
        bI (X12_cellIn (46 + v1) v2 (wI μ 61 0 9 v6)) fun x1 μ2 =>
          if inb (46 + v1) 1740 = true then
            if (x1 - (rI μ2 61 0 (ix (46 + v1)))) < v3 then
              X12_enough_J116 (X12_enough_L68 n) v1 v2 v3 v4 v5 v6 μ2
            else
              X12_enough_J116 (X12_enough_L68 n) v1 v2 v3 v4 v6 v6 μ2
          else none
theorem X12_enough_L68_ok : ∀ (n : Nat) (v1 : Int32) (v2 : Int32) (v3 : Int32) (v4 : Int32) (v5 : Int32) (v6 : Int32) (μ : sM), sOk 12 cX12_enough 7 4 false 68 [(0, vr 13 0), (1, vi v1), (2, vi v2), (3, vi v3), (4, vi v4), (5, vi v5), (6, vi v6)] [] μ (oI (X12_enough_L68 n v1 v2 v3 v4 v5 v6 μ)) := by
  intro n
  induction n with
  | zero =>
    intros
    exact sNo
  | succ n ih =>
    intro v1 v2 v3 v4 v5 v6 μ
    unfold X12_enough_L68
    refine sBk (lo' := [(0, vr 13 0), (1, vi v1), (2, vi v2), (3, vi v3), (4, vi v4), (5, vi v5), (6, vi v6)]) (st' := [vi 60, vi v6]) (μ' := μ) (pc' := 72) [(.iload 6, 0, 0, 0, 0), (.bipush 60, 0, 0, 60, 0)] (by decide +kernel) rfl rfl ?_
    refine sIc_gt oI (off := 50) (tgt := 122) (by decide +kernel) (by decide) (fun _ => ?_) (fun _ => ?_)
    · refine sWk (lo' := [(0, vr 13 0), (4, vi v4), (5, vi v5)]) [0, 4, 5] rfl ?_
      exact X12_enough_J122_ok v4 v5 μ
    · refine sBk (lo' := [(0, vr 13 0), (1, vi v1), (2, vi v2), (3, vi v3), (4, vi v4), (5, vi v5), (6, vi v6)]) (st' := [vi v5]) (μ' := μ) (pc' := 77) [(.iload 5, 0, 0, 0, 0)] (by decide +kernel) rfl rfl ?_
      refine sIf_ge oI (off := 45) (tgt := 122) (by decide +kernel) (by decide) (fun _ => ?_) (fun _ => ?_)
      · refine sWk (lo' := [(0, vr 13 0), (4, vi v4), (5, vi v5)]) [0, 4, 5] rfl ?_
        exact X12_enough_J122_ok v4 v5 μ
      · refine sBk (lo' := [(0, vr 13 0), (1, vi v1), (2, vi v2), (3, vi v3), (4, vi v4), (5, vi v5), (6, vi v6)]) (st' := [vi v6, vi 9, vr 61 0]) (μ' := μ) (pc' := 88) [(.aload_n 0, 0, 0, 0, 0), (.getfield 35, 12, 20, 0, 0), (.bipush 9, 0, 0, 9, 0), (.iload 6, 0, 0, 0, 0)] (by decide +kernel) rfl rfl ?_
        refine sC_ias (n := 1740) (j := 9) (by decide +kernel) (by decide +kernel) rfl rfl (by decide +kernel) ?_
        refine sBk (lo' := [(0, vr 13 0), (1, vi v1), (2, vi v2), (3, vi v3), (4, vi v4), (5, vi v5), (6, vi v6)]) (st' := [vi v2, vi (46 + v1), vr 13 0]) (μ' := wI μ 61 0 9 v6) (pc' := 95) [(.aload_n 0, 0, 0, 0, 0), (.bipush 46, 0, 0, 46, 0), (.iload_n 1, 0, 0, 0, 0), (.iadd, 0, 0, 0, 0), (.iload_n 2, 0, 0, 0, 0)] (by decide +kernel) rfl rfl ?_
        refine sCvI oI rfl (ci := 12) (q := (13, 0)) (avs := [vi (46 + v1), vi v2]) (rest := []) (tX12_cellIn (46 + v1) v2 (wI μ 61 0 9 v6)) (by decide) (by decide +kernel) lk_12_421 yv_X12_cellIn rfl (by decide) rfl rfl rfl (Nat.le_of_ble_eq_true rfl) (fun x1 μ2 => ?_)
        refine sBk (lo' := [(0, vr 13 0), (1, vi v1), (2, vi v2), (3, vi v3), (4, vi v4), (5, vi v5), (6, vi v6)]) (st' := [vi (46 + v1), vr 61 0, vi x1]) (μ' := μ2) (pc' := 106) [(.aload_n 0, 0, 0, 0, 0), (.getfield 35, 12, 20, 0, 0), (.bipush 46, 0, 0, 46, 0), (.iload_n 1, 0, 0, 0, 0), (.iadd, 0, 0, 0, 0)] (by decide +kernel) rfl rfl ?_
        refine sS_ial oI rfl (n := 1740) (j := (ix (46 + v1))) (by decide +kernel) rfl rfl rfl (fun _ => ?_)
        refine sBk (lo' := [(0, vr 13 0), (1, vi v1), (2, vi v2), (3, vi v3), (4, vi v4), (5, vi v5), (6, vi v6)]) (st' := [vi v3, vi (x1 - (rI μ2 61 0 (ix (46 + v1))))]) (μ' := μ2) (pc' := 109) [(.isub, 0, 0, 0, 0), (.iload_n 3, 0, 0, 0, 0)] (by decide +kernel) rfl rfl ?_
        refine sIc_lt oI (off := 7) (tgt := 116) (by decide +kernel) (by decide) (fun _ => ?_) (fun _ => ?_)
        · exact X12_enough_J116_ok ih v1 v2 v3 v4 v5 v6 μ2
        · refine sBk (lo' := [(5, vi v6), (0, vr 13 0), (1, vi v1), (2, vi v2), (3, vi v3), (4, vi v4), (6, vi v6)]) (st' := []) (μ' := μ2) (pc' := 116) [(.iload 6, 0, 0, 0, 0), (.istore 5, 0, 0, 0, 0)] (by decide +kernel) rfl rfl ?_
          refine sWk (lo' := [(0, vr 13 0), (1, vi v1), (2, vi v2), (3, vi v3), (4, vi v4), (5, vi v6), (6, vi v6)]) [1, 2, 3, 4, 5, 0, 6] rfl ?_
          exact X12_enough_J116_ok ih v1 v2 v3 v4 v6 v6 μ2
def X12_enough (a1 : Int32) (a2 : Int32) (a3 : Int32) (μ : sM) : Option (Int32 × sM) :=
  bI (X12_isMillAt a1 (wI (wI μ 13 0 1 0) 13 0 0 0)) fun x1 μ2 =>
    if x1 = 0 then
      bI (X12_refuse 2 μ2) fun x7 μ8 =>
        some (x7, μ8)
    else
      bI (X12_isIn (Int32.toInt64 a2) 0 100 μ2) fun x3 μ4 =>
        if x3 = 0 then
          X12_enough_J47 μ4
        else
          bI (X12_isIn (Int32.toInt64 a3) 0 (Int32.toInt64 a2) μ4) fun x5 μ6 =>
            if x5 = 0 then
              X12_enough_J47 μ6
            else
              X12_enough_L68 fuN a1 a2 a3 (rI μ6 61 0 9) (-1) 0 μ6
theorem tX12_enough (a1 : Int32) (a2 : Int32) (a3 : Int32) (μ : sM) : sMt yX12_enough cX12_enough 7 (some .int) 4 [vr 13 0, vi a1, vi a2, vi a3] μ (oI (X12_enough a1 a2 a3 μ)) := by
  refine sMt_of (own := 12) (bl := false) (by decide +kernel) rfl (Nat.le_of_ble_eq_true rfl) (fun r ρ h => ?_) ?_
  · obtain ⟨q, -, hq⟩ := Option.map_eq_some_iff.mp h
    cases hq
    exact Or.inl rfl
  · unfold X12_enough
    show sOk 12 cX12_enough 7 4 false 0 [(0, vr 13 0), (1, vi a1), (2, vi a2), (3, vi a3)] [] μ _
    refine sBk (lo' := [(0, vr 13 0), (1, vi a1), (2, vi a2), (3, vi a3)]) (st' := [vi a1, vr 13 0]) (μ' := wI (wI μ 13 0 1 0) 13 0 0 0) (pc' := 12) [(.aload_n 0, 0, 0, 0, 0), (.iconst 0, 0, 0, 0, 0), (.putfield 72, 12, 1, 0, 0), (.aload_n 0, 0, 0, 0, 0), (.iconst 0, 0, 0, 0, 0), (.putfield 75, 12, 0, 0, 0), (.aload_n 0, 0, 0, 0, 0), (.iload_n 1, 0, 0, 0, 0)] (by decide +kernel) rfl rfl ?_
    refine sCvI oI rfl (ci := 12) (q := (13, 0)) (avs := [vi a1]) (rest := []) (tX12_isMillAt a1 (wI (wI μ 13 0 1 0) 13 0 0 0)) (by decide) (by decide +kernel) lk_12_350 yv_X12_isMillAt rfl (by decide) rfl rfl rfl (Nat.le_of_ble_eq_true rfl) (fun x1 μ2 => ?_)
    refine sIf_ne oI (off := 9) (tgt := 24) (by decide +kernel) (by decide) (fun _ => ?_) (fun _ => ?_)
    · refine sBk (lo' := [(0, vr 13 0), (1, vi a1), (2, vi a2), (3, vi a3)]) (st' := [vl 100, vl 0, vl (Int32.toInt64 a2)]) (μ' := μ2) (pc' := 30) [(.iload_n 2, 0, 0, 0, 0), (.i2l, 0, 0, 0, 0), (.lconst 0, 0, 0, 0, 0), (.ldc2_w 424, 0, 0, 0, 100)] (by decide +kernel) rfl rfl ?_
      refine sCsI oI rfl (avs := [vl (Int32.toInt64 a2), vl 0, vl 100]) (rest := []) (tX12_isIn (Int32.toInt64 a2) 0 100 μ2) (by decide) (by decide +kernel) lk_12_107 ys_X12_isIn rfl rfl (Nat.le_of_ble_eq_true rfl) (fun x3 μ4 => ?_)
      refine sIf_eq oI (off := 14) (tgt := 47) (by decide +kernel) (by decide) (fun _ => ?_) (fun _ => ?_)
      · refine sWk (lo' := [(0, vr 13 0)]) [0] rfl ?_
        exact X12_enough_J47_ok μ4
      · refine sBk (lo' := [(0, vr 13 0), (1, vi a1), (2, vi a2), (3, vi a3)]) (st' := [vl (Int32.toInt64 a2), vl 0, vl (Int32.toInt64 a3)]) (μ' := μ4) (pc' := 41) [(.iload_n 3, 0, 0, 0, 0), (.i2l, 0, 0, 0, 0), (.lconst 0, 0, 0, 0, 0), (.iload_n 2, 0, 0, 0, 0), (.i2l, 0, 0, 0, 0)] (by decide +kernel) rfl rfl ?_
        refine sCsI oI rfl (avs := [vl (Int32.toInt64 a3), vl 0, vl (Int32.toInt64 a2)]) (rest := []) (tX12_isIn (Int32.toInt64 a3) 0 (Int32.toInt64 a2) μ4) (by decide) (by decide +kernel) lk_12_107 ys_X12_isIn rfl rfl (Nat.le_of_ble_eq_true rfl) (fun x5 μ6 => ?_)
        refine sIf_ne oI (off := 9) (tgt := 53) (by decide +kernel) (by decide) (fun _ => ?_) (fun _ => ?_)
        · refine sBk (lo' := [(0, vr 13 0), (1, vi a1), (2, vi a2), (3, vi a3)]) (st' := [vi 9, vr 61 0]) (μ' := μ6) (pc' := 59) [(.aload_n 0, 0, 0, 0, 0), (.getfield 35, 12, 20, 0, 0), (.bipush 9, 0, 0, 9, 0)] (by decide +kernel) rfl rfl ?_
          refine sC_ial (n := 1740) (j := 9) (by decide +kernel) (by decide +kernel) rfl rfl (by decide +kernel) ?_
          refine sBk (lo' := [(6, vi 0), (5, vi (-1)), (4, vi (rI μ6 61 0 9)), (0, vr 13 0), (1, vi a1), (2, vi a2), (3, vi a3)]) (st' := []) (μ' := μ6) (pc' := 68) [(.istore 4, 0, 0, 0, 0), (.iconst (-1), 0, 0, (-1), 0), (.istore 5, 0, 0, 0, 0), (.iconst 0, 0, 0, 0, 0), (.istore 6, 0, 0, 0, 0)] (by decide +kernel) rfl rfl ?_
          refine sWk (lo' := [(0, vr 13 0), (1, vi a1), (2, vi a2), (3, vi a3), (4, vi (rI μ6 61 0 9)), (5, vi (-1)), (6, vi 0)]) [3, 4, 5, 6, 2, 1, 0] rfl ?_
          exact X12_enough_L68_ok fuN a1 a2 a3 (rI μ6 61 0 9) (-1) 0 μ6
        · refine sWk (lo' := [(0, vr 13 0)]) [0] rfl ?_
          exact X12_enough_J47_ok μ6
    · refine sBk (lo' := [(0, vr 13 0), (1, vi a1), (2, vi a2), (3, vi a3)]) (st' := [vi 2, vr 13 0]) (μ' := μ2) (pc' := 20) [(.aload_n 0, 0, 0, 0, 0), (.iconst 2, 0, 0, 2, 0)] (by decide +kernel) rfl rfl ?_
      refine sCvI oI rfl (ci := 12) (q := (13, 0)) (avs := [vi 2]) (rest := []) (tX12_refuse 2 μ2) (by decide) (by decide +kernel) lk_12_325 yv_X12_refuse rfl (by decide) rfl rfl rfl (Nat.le_of_ble_eq_true rfl) (fun x7 μ8 => ?_)
      exact sRi (by decide +kernel) (fun h => by cases h)
/-! ClockRiverModel.whyNoGate -/
def X12_whyNoGate (a1 : Int32) (a2 : Int32) (μ : sM) : Option (Int32 × sM) :=
  bI (X12_isReachAt a1 μ) fun x1 μ2 =>
    if x1 = 0 then
      some (2, μ2)
    else
      bI (X12_isIn (Int32.toInt64 a2) 0 48 μ2) fun x3 μ4 =>
        if x3 = 0 then
          some (5, μ4)
        else
          some (0, μ4)
theorem tX12_whyNoGate (a1 : Int32) (a2 : Int32) (μ : sM) : sMt yX12_whyNoGate cX12_whyNoGate 3 (some .int) 3 [vr 13 0, vi a1, vi a2] μ (oI (X12_whyNoGate a1 a2 μ)) := by
  refine sMt_of (own := 12) (bl := false) (by decide +kernel) rfl (Nat.le_of_ble_eq_true rfl) (fun r ρ h => ?_) ?_
  · obtain ⟨q, -, hq⟩ := Option.map_eq_some_iff.mp h
    cases hq
    exact Or.inl rfl
  · unfold X12_whyNoGate
    show sOk 12 cX12_whyNoGate 3 3 false 0 [(0, vr 13 0), (1, vi a1), (2, vi a2)] [] μ _
    refine sBk (lo' := [(0, vr 13 0), (1, vi a1), (2, vi a2)]) (st' := [vi a1, vr 13 0]) (μ' := μ) (pc' := 2) [(.aload_n 0, 0, 0, 0, 0), (.iload_n 1, 0, 0, 0, 0)] (by decide +kernel) rfl rfl ?_
    refine sCvI oI rfl (ci := 12) (q := (13, 0)) (avs := [vi a1]) (rest := []) (tX12_isReachAt a1 μ) (by decide) (by decide +kernel) lk_12_339 yv_X12_isReachAt rfl (by decide) rfl rfl rfl (Nat.le_of_ble_eq_true rfl) (fun x1 μ2 => ?_)
    refine sIf_ne oI (off := 7) (tgt := 12) (by decide +kernel) (by decide) (fun _ => ?_) (fun _ => ?_)
    · refine sBk (lo' := [(0, vr 13 0), (1, vi a1), (2, vi a2)]) (st' := [vl 48, vl 0, vl (Int32.toInt64 a2)]) (μ' := μ2) (pc' := 18) [(.iload_n 2, 0, 0, 0, 0), (.i2l, 0, 0, 0, 0), (.lconst 0, 0, 0, 0, 0), (.ldc2_w 429, 0, 0, 0, 48)] (by decide +kernel) rfl rfl ?_
      refine sCsI oI rfl (avs := [vl (Int32.toInt64 a2), vl 0, vl 48]) (rest := []) (tX12_isIn (Int32.toInt64 a2) 0 48 μ2) (by decide) (by decide +kernel) lk_12_107 ys_X12_isIn rfl rfl (Nat.le_of_ble_eq_true rfl) (fun x3 μ4 => ?_)
      refine sIf_eq oI (off := 7) (tgt := 28) (by decide +kernel) (by decide) (fun _ => ?_) (fun _ => ?_)
      · refine sBk (lo' := [(0, vr 13 0), (1, vi a1), (2, vi a2)]) (st' := [vi 5]) (μ' := μ4) (pc' := 29) [(.iconst 5, 0, 0, 5, 0)] (by decide +kernel) rfl rfl ?_
        exact sRi (by decide +kernel) (fun h => by cases h)
      · refine sBk (lo' := [(0, vr 13 0), (1, vi a1), (2, vi a2)]) (st' := [vi 0]) (μ' := μ4) (pc' := 25) [(.iconst 0, 0, 0, 0, 0)] (by decide +kernel) rfl rfl ?_
        refine sGt (off := 4) (tgt := 29) (by decide +kernel) (by decide) ?_
        exact sRi (by decide +kernel) (fun h => by cases h)
    · refine sBk (lo' := [(0, vr 13 0), (1, vi a1), (2, vi a2)]) (st' := [vi 2]) (μ' := μ2) (pc' := 9) [(.iconst 2, 0, 0, 2, 0)] (by decide +kernel) rfl rfl ?_
      refine sGt (off := 20) (tgt := 29) (by decide +kernel) (by decide) ?_
      exact sRi (by decide +kernel) (fun h => by cases h)
/-! ClockRiverModel.bestOf -/
def X12_bestOf_J84 (k14 : Int32 → Int32 → Int32 → Int32 → sM → Option (Int32 × sM)) (v1 : Int32) (v2 : Int32) (v3 : Int32) (v4 : Int32) (μ : sM) : Option (Int32 × sM) :=
  k14 v1 v2 v3 (v4 + 1) μ
theorem X12_bestOf_J84_ok {k14 : Int32 → Int32 → Int32 → Int32 → sM → Option (Int32 × sM)} (hk14 : ∀ (v1 : Int32) (v2 : Int32) (v3 : Int32) (v4 : Int32) (μ : sM), sOk 12 cX12_bestOf 7 3 false 14 [(0, vr 13 0), (1, vi v1), (2, vi v2), (3, vi v3), (4, vi v4)] [] μ (oI (k14 v1 v2 v3 v4 μ))) (v1 : Int32) (v2 : Int32) (v3 : Int32) (v4 : Int32) (μ : sM) : sOk 12 cX12_bestOf 7 3 false 84 [(0, vr 13 0), (1, vi v1), (2, vi v2), (3, vi v3), (4, vi v4)] [] μ (oI (X12_bestOf_J84 k14 v1 v2 v3 v4 μ)) := by
  unfold X12_bestOf_J84
  refine sBk (lo' := [(4, vi (v4 + 1)), (0, vr 13 0), (1, vi v1), (2, vi v2), (3, vi v3)]) (st' := []) (μ' := μ) (pc' := 87) [(.iinc 4 1, 0, 0, 1, 0)] (by decide +kernel) rfl rfl ?_
  refine sGt (off := (-73)) (tgt := 14) (by decide +kernel) (by decide) ?_
  refine sWk (lo' := [(0, vr 13 0), (1, vi v1), (2, vi v2), (3, vi v3), (4, vi (v4 + 1))]) [1, 2, 3, 4, 0] rfl ?_
  exact hk14 v1 v2 v3 (v4 + 1) μ
def X12_bestOf_L38 (k14 : Int32 → Int32 → Int32 → Int32 → sM → Option (Int32 × sM)) : Nat → Int32 → Int32 → Int32 → Int32 → Int32 → Int32 → sM → Option (Int32 × sM)
  | 0, _, _, _, _, _, _, _ => none
  | n + 1, v1, v2, v3, v4, v5, v6, μ =>
    if v2 ≤ v6 then
      bV (X12_gives μ) fun μ2 =>
        if (rI μ2 13 0 29) < v5 then
          X12_bestOf_J84 k14 v1 v2 v4 v4 (wI μ2 13 0 29 v5)
        else
          X12_bestOf_J84 k14 v1 v2 v3 v4 μ2
    else
      bI (X12_goesHour μ) fun x3 μ4 =>
        X12_bestOf_L38 k14 n v1 v2 v3 v4 (v5 + x3) (v6 + 1) μ4
theorem X12_bestOf_L38_ok {k14 : Int32 → Int32 → Int32 → Int32 → sM → Option (Int32 × sM)} (hk14 : ∀ (v1 : Int32) (v2 : Int32) (v3 : Int32) (v4 : Int32) (μ : sM), sOk 12 cX12_bestOf 7 3 false 14 [(0, vr 13 0), (1, vi v1), (2, vi v2), (3, vi v3), (4, vi v4)] [] μ (oI (k14 v1 v2 v3 v4 μ))) : ∀ (n : Nat) (v1 : Int32) (v2 : Int32) (v3 : Int32) (v4 : Int32) (v5 : Int32) (v6 : Int32) (μ : sM), sOk 12 cX12_bestOf 7 3 false 38 [(0, vr 13 0), (1, vi v1), (2, vi v2), (3, vi v3), (4, vi v4), (5, vi v5), (6, vi v6)] [] μ (oI (X12_bestOf_L38 k14 n v1 v2 v3 v4 v5 v6 μ)) := by
  intro n
  induction n with
  | zero =>
    intros
    exact sNo
  | succ n ih =>
    intro v1 v2 v3 v4 v5 v6 μ
    unfold X12_bestOf_L38
    refine sBk (lo' := [(0, vr 13 0), (1, vi v1), (2, vi v2), (3, vi v3), (4, vi v4), (5, vi v5), (6, vi v6)]) (st' := [vi v2, vi v6]) (μ' := μ) (pc' := 41) [(.iload 6, 0, 0, 0, 0), (.iload_n 2, 0, 0, 0, 0)] (by decide +kernel) rfl rfl ?_
    refine sIc_ge oI (off := 18) (tgt := 59) (by decide +kernel) (by decide) (fun _ => ?_) (fun _ => ?_)
    · refine sBk (lo' := [(0, vr 13 0), (1, vi v1), (2, vi v2), (3, vi v3), (4, vi v4), (5, vi v5), (6, vi v6)]) (st' := [vr 13 0]) (μ' := μ) (pc' := 60) [(.aload_n 0, 0, 0, 0, 0)] (by decide +kernel) rfl rfl ?_
      refine sCvV oI rfl (ci := 12) (q := (13, 0)) (avs := []) (rest := []) (tX12_gives μ) (by decide) (by decide +kernel) lk_12_415 yv_X12_gives rfl (by decide) rfl rfl rfl (Nat.le_of_ble_eq_true rfl) (fun μ2 => ?_)
      refine sBk (lo' := [(0, vr 13 0), (1, vi v1), (2, vi v2), (3, vi v3), (4, vi v4), (5, vi v5), (6, vi v6)]) (st' := [vi (rI μ2 13 0 29), vi v5]) (μ' := μ2) (pc' := 69) [(.iload 5, 0, 0, 0, 0), (.aload_n 0, 0, 0, 0, 0), (.getfield 426, 12, 29, 0, 0)] (by decide +kernel) rfl rfl ?_
      refine sIc_gt oI (off := 6) (tgt := 75) (by decide +kernel) (by decide) (fun _ => ?_) (fun _ => ?_)
      · refine sBk (lo' := [(3, vi v4), (0, vr 13 0), (1, vi v1), (2, vi v2), (4, vi v4), (5, vi v5), (6, vi v6)]) (st' := []) (μ' := wI μ2 13 0 29 v5) (pc' := 84) [(.aload_n 0, 0, 0, 0, 0), (.iload 5, 0, 0, 0, 0), (.putfield 426, 12, 29, 0, 0), (.iload 4, 0, 0, 0, 0), (.istore_n 3, 0, 0, 0, 0)] (by decide +kernel) rfl rfl ?_
        refine sWk (lo' := [(0, vr 13 0), (1, vi v1), (2, vi v2), (3, vi v4), (4, vi v4)]) [1, 2, 3, 0, 4] rfl ?_
        exact X12_bestOf_J84_ok hk14 v1 v2 v4 v4 (wI μ2 13 0 29 v5)
      · refine sGt (off := 12) (tgt := 84) (by decide +kernel) (by decide) ?_
        refine sWk (lo' := [(0, vr 13 0), (1, vi v1), (2, vi v2), (3, vi v3), (4, vi v4)]) [0, 1, 2, 3, 4] rfl ?_
        exact X12_bestOf_J84_ok hk14 v1 v2 v3 v4 μ2
    · refine sBk (lo' := [(0, vr 13 0), (1, vi v1), (2, vi v2), (3, vi v3), (4, vi v4), (5, vi v5), (6, vi v6)]) (st' := [vr 13 0, vi v5]) (μ' := μ) (pc' := 47) [(.iload 5, 0, 0, 0, 0), (.aload_n 0, 0, 0, 0, 0)] (by decide +kernel) rfl rfl ?_
      refine sCvI oI rfl (ci := 12) (q := (13, 0)) (avs := []) (rest := [vi v5]) (tX12_goesHour μ) (by decide) (by decide +kernel) lk_12_382 yv_X12_goesHour rfl (by decide) rfl rfl rfl (Nat.le_of_ble_eq_true rfl) (fun x3 μ4 => ?_)
      refine sBk (lo' := [(6, vi (v6 + 1)), (5, vi (v5 + x3)), (0, vr 13 0), (1, vi v1), (2, vi v2), (3, vi v3), (4, vi v4)]) (st' := []) (μ' := μ4) (pc' := 56) [(.iadd, 0, 0, 0, 0), (.istore 5, 0, 0, 0, 0), (.iinc 6 1, 0, 0, 1, 0)] (by decide +kernel) rfl rfl ?_
      refine sGt (off := (-18)) (tgt := 38) (by decide +kernel) (by decide) ?_
      refine sWk (lo' := [(0, vr 13 0), (1, vi v1), (2, vi v2), (3, vi v3), (4, vi v4), (5, vi (v5 + x3)), (6, vi (v6 + 1))]) [2, 3, 4, 5, 6, 1, 0] rfl ?_
      exact ih v1 v2 v3 v4 (v5 + x3) (v6 + 1) μ4
def X12_bestOf_L14 : Nat → Int32 → Int32 → Int32 → Int32 → sM → Option (Int32 × sM)
  | 0, _, _, _, _, _ => none
  | n + 1, v1, v2, v3, v4, μ =>
    if 99 < v4 then
      some (v3, μ)
    else
      if inb (22 + v1) 1740 = true then
        X12_bestOf_L38 (X12_bestOf_L14 n) fuN v1 v2 v3 v4 0 0 (wI μ 61 0 (ix (22 + v1)) v4)
      else none
theorem X12_bestOf_L14_ok : ∀ (n : Nat) (v1 : Int32) (v2 : Int32) (v3 : Int32) (v4 : Int32) (μ : sM), sOk 12 cX12_bestOf 7 3 false 14 [(0, vr 13 0), (1, vi v1), (2, vi v2), (3, vi v3), (4, vi v4)] [] μ (oI (X12_bestOf_L14 n v1 v2 v3 v4 μ)) := by
  intro n
  induction n with
  | zero =>
    intros
    exact sNo
  | succ n ih =>
    intro v1 v2 v3 v4 μ
    unfold X12_bestOf_L14
    refine sBk (lo' := [(0, vr 13 0), (1, vi v1), (2, vi v2), (3, vi v3), (4, vi v4)]) (st' := [vi 99, vi v4]) (μ' := μ) (pc' := 18) [(.iload 4, 0, 0, 0, 0), (.bipush 99, 0, 0, 99, 0)] (by decide +kernel) rfl rfl ?_
    refine sIc_gt oI (off := 72) (tgt := 90) (by decide +kernel) (by decide) (fun _ => ?_) (fun _ => ?_)
    · refine sBk (lo' := [(0, vr 13 0), (1, vi v1), (2, vi v2), (3, vi v3), (4, vi v4)]) (st' := [vi v3]) (μ' := μ) (pc' := 91) [(.iload_n 3, 0, 0, 0, 0)] (by decide +kernel) rfl rfl ?_
      exact sRi (by decide +kernel) (fun h => by cases h)
    · refine sBk (lo' := [(0, vr 13 0), (1, vi v1), (2, vi v2), (3, vi v3), (4, vi v4)]) (st' := [vi v4, vi (22 + v1), vr 61 0]) (μ' := μ) (pc' := 31) [(.aload_n 0, 0, 0, 0, 0), (.getfield 35, 12, 20, 0, 0), (.bipush 22, 0, 0, 22, 0), (.iload_n 1, 0, 0, 0, 0), (.iadd, 0, 0, 0, 0), (.iload 4, 0, 0, 0, 0)] (by decide +kernel) rfl rfl ?_
      refine sS_ias oI rfl (n := 1740) (j := (ix (22 + v1))) (by decide +kernel) rfl rfl rfl (fun _ => ?_)
      refine sBk (lo' := [(6, vi 0), (5, vi 0), (0, vr 13 0), (1, vi v1), (2, vi v2), (3, vi v3), (4, vi v4)]) (st' := []) (μ' := wI μ 61 0 (ix (22 + v1)) v4) (pc' := 38) [(.iconst 0, 0, 0, 0, 0), (.istore 5, 0, 0, 0, 0), (.iconst 0, 0, 0, 0, 0), (.istore 6, 0, 0, 0, 0)] (by decide +kernel) rfl rfl ?_
      refine sWk (lo' := [(0, vr 13 0), (1, vi v1), (2, vi v2), (3, vi v3), (4, vi v4), (5, vi 0), (6, vi 0)]) [2, 3, 4, 5, 6, 1, 0] rfl ?_
      exact X12_bestOf_L38_ok ih fuN v1 v2 v3 v4 0 0 (wI μ 61 0 (ix (22 + v1)) v4)
def X12_bestOf (a1 : Int32) (a2 : Int32) (μ : sM) : Option (Int32 × sM) :=
  bV (X12_puts (wI μ 13 0 29 (-1))) fun μ2 =>
    X12_bestOf_L14 fuN a1 a2 0 0 μ2
theorem tX12_bestOf (a1 : Int32) (a2 : Int32) (μ : sM) : sMt yX12_bestOf cX12_bestOf 7 (some .int) 3 [vr 13 0, vi a1, vi a2] μ (oI (X12_bestOf a1 a2 μ)) := by
  refine sMt_of (own := 12) (bl := false) (by decide +kernel) rfl (Nat.le_of_ble_eq_true rfl) (fun r ρ h => ?_) ?_
  · obtain ⟨q, -, hq⟩ := Option.map_eq_some_iff.mp h
    cases hq
    exact Or.inl rfl
  · unfold X12_bestOf
    show sOk 12 cX12_bestOf 7 3 false 0 [(0, vr 13 0), (1, vi a1), (2, vi a2)] [] μ _
    refine sBk (lo' := [(3, vi 0), (0, vr 13 0), (1, vi a1), (2, vi a2)]) (st' := [vr 13 0]) (μ' := wI μ 13 0 29 (-1)) (pc' := 8) [(.iconst 0, 0, 0, 0, 0), (.istore_n 3, 0, 0, 0, 0), (.aload_n 0, 0, 0, 0, 0), (.iconst (-1), 0, 0, (-1), 0), (.putfield 426, 12, 29, 0, 0), (.aload_n 0, 0, 0, 0, 0)] (by decide +kernel) rfl rfl ?_
    refine sCvV oI rfl (ci := 12) (q := (13, 0)) (avs := []) (rest := []) (tX12_puts (wI μ 13 0 29 (-1))) (by decide) (by decide +kernel) lk_12_412 yv_X12_puts rfl (by decide) rfl rfl rfl (Nat.le_of_ble_eq_true rfl) (fun μ2 => ?_)
    refine sBk (lo' := [(4, vi 0), (3, vi 0), (0, vr 13 0), (1, vi a1), (2, vi a2)]) (st' := []) (μ' := μ2) (pc' := 14) [(.iconst 0, 0, 0, 0, 0), (.istore 4, 0, 0, 0, 0)] (by decide +kernel) rfl rfl ?_
    refine sWk (lo' := [(0, vr 13 0), (1, vi a1), (2, vi a2), (3, vi 0), (4, vi 0)]) [2, 3, 4, 1, 0] rfl ?_
    exact X12_bestOf_L14_ok fuN a1 a2 0 0 μ2
/-! ClockRiverModel.bestGate -/
def X12_bestGate (a1 : Int32) (a2 : Int32) (μ : sM) : Option (Int32 × sM) :=
  bI (X12_whyNoGate a1 a2 (wI μ 13 0 1 0)) fun x1 μ2 =>
    if x1 ≤ 0 then
      bI (X12_bestOf a1 a2 (wI μ2 13 0 0 x1)) fun x3 μ4 =>
        some (x3, μ4)
    else
      some ((-1), wI μ2 13 0 0 x1)
theorem tX12_bestGate (a1 : Int32) (a2 : Int32) (μ : sM) : sMt yX12_bestGate cX12_bestGate 3 (some .int) 4 [vr 13 0, vi a1, vi a2] μ (oI (X12_bestGate a1 a2 μ)) := by
  refine sMt_of (own := 12) (bl := false) (by decide +kernel) rfl (Nat.le_of_ble_eq_true rfl) (fun r ρ h => ?_) ?_
  · obtain ⟨q, -, hq⟩ := Option.map_eq_some_iff.mp h
    cases hq
    exact Or.inl rfl
  · unfold X12_bestGate
    show sOk 12 cX12_bestGate 3 4 false 0 [(0, vr 13 0), (1, vi a1), (2, vi a2)] [] μ _
    refine sBk (lo' := [(0, vr 13 0), (1, vi a1), (2, vi a2)]) (st' := [vi a2, vi a1, vr 13 0, vr 13 0]) (μ' := wI μ 13 0 1 0) (pc' := 9) [(.aload_n 0, 0, 0, 0, 0), (.iconst 0, 0, 0, 0, 0), (.putfield 72, 12, 1, 0, 0), (.aload_n 0, 0, 0, 0, 0), (.aload_n 0, 0, 0, 0, 0), (.iload_n 1, 0, 0, 0, 0), (.iload_n 2, 0, 0, 0, 0)] (by decide +kernel) rfl rfl ?_
    refine sCvI oI rfl (ci := 12) (q := (13, 0)) (avs := [vi a1, vi a2]) (rest := [vr 13 0]) (tX12_whyNoGate a1 a2 (wI μ 13 0 1 0)) (by decide) (by decide +kernel) lk_12_431 yv_X12_whyNoGate rfl (by decide) rfl rfl rfl (Nat.le_of_ble_eq_true rfl) (fun x1 μ2 => ?_)
    refine sBk (lo' := [(0, vr 13 0), (1, vi a1), (2, vi a2)]) (st' := [vi x1]) (μ' := wI μ2 13 0 0 x1) (pc' := 19) [(.putfield 75, 12, 0, 0, 0), (.aload_n 0, 0, 0, 0, 0), (.getfield 75, 12, 0, 0, 0)] (by decide +kernel) rfl rfl ?_
    refine sIf_le oI (off := 7) (tgt := 26) (by decide +kernel) (by decide) (fun _ => ?_) (fun _ => ?_)
    · refine sBk (lo' := [(0, vr 13 0), (1, vi a1), (2, vi a2)]) (st' := [vi a2, vi a1, vr 13 0]) (μ' := wI μ2 13 0 0 x1) (pc' := 29) [(.aload_n 0, 0, 0, 0, 0), (.iload_n 1, 0, 0, 0, 0), (.iload_n 2, 0, 0, 0, 0)] (by decide +kernel) rfl rfl ?_
      refine sCvI oI rfl (ci := 12) (q := (13, 0)) (avs := [vi a1, vi a2]) (rest := []) (tX12_bestOf a1 a2 (wI μ2 13 0 0 x1)) (by decide) (by decide +kernel) lk_12_434 yv_X12_bestOf rfl (by decide) rfl rfl rfl (Nat.le_of_ble_eq_true rfl) (fun x3 μ4 => ?_)
      exact sRi (by decide +kernel) (fun h => by cases h)
    · refine sBk (lo' := [(0, vr 13 0), (1, vi a1), (2, vi a2)]) (st' := [vi (-1)]) (μ' := wI μ2 13 0 0 x1) (pc' := 23) [(.iconst (-1), 0, 0, (-1), 0)] (by decide +kernel) rfl rfl ?_
      refine sGt (off := 9) (tgt := 32) (by decide +kernel) (by decide) ?_
      exact sRi (by decide +kernel) (fun h => by cases h)
/-! ClockRiverModel.bestGround -/
def X12_bestGround (a1 : Int32) (a2 : Int32) (μ : sM) : Option (Int32 × sM) :=
  bI (X12_whyNoGate a1 a2 (wI μ 13 0 1 0)) fun x1 μ2 =>
    if x1 ≤ 0 then
      bI (X12_bestOf a1 a2 (wI μ2 13 0 0 x1)) fun x3 μ4 =>
        some ((rI μ4 13 0 29), μ4)
    else
      some ((-1), wI μ2 13 0 0 x1)
theorem tX12_bestGround (a1 : Int32) (a2 : Int32) (μ : sM) : sMt yX12_bestGround cX12_bestGround 3 (some .int) 4 [vr 13 0, vi a1, vi a2] μ (oI (X12_bestGround a1 a2 μ)) := by
  refine sMt_of (own := 12) (bl := false) (by decide +kernel) rfl (Nat.le_of_ble_eq_true rfl) (fun r ρ h => ?_) ?_
  · obtain ⟨q, -, hq⟩ := Option.map_eq_some_iff.mp h
    cases hq
    exact Or.inl rfl
  · unfold X12_bestGround
    show sOk 12 cX12_bestGround 3 4 false 0 [(0, vr 13 0), (1, vi a1), (2, vi a2)] [] μ _
    refine sBk (lo' := [(0, vr 13 0), (1, vi a1), (2, vi a2)]) (st' := [vi a2, vi a1, vr 13 0, vr 13 0]) (μ' := wI μ 13 0 1 0) (pc' := 9) [(.aload_n 0, 0, 0, 0, 0), (.iconst 0, 0, 0, 0, 0), (.putfield 72, 12, 1, 0, 0), (.aload_n 0, 0, 0, 0, 0), (.aload_n 0, 0, 0, 0, 0), (.iload_n 1, 0, 0, 0, 0), (.iload_n 2, 0, 0, 0, 0)] (by decide +kernel) rfl rfl ?_
    refine sCvI oI rfl (ci := 12) (q := (13, 0)) (avs := [vi a1, vi a2]) (rest := [vr 13 0]) (tX12_whyNoGate a1 a2 (wI μ 13 0 1 0)) (by decide) (by decide +kernel) lk_12_431 yv_X12_whyNoGate rfl (by decide) rfl rfl rfl (Nat.le_of_ble_eq_true rfl) (fun x1 μ2 => ?_)
    refine sBk (lo' := [(0, vr 13 0), (1, vi a1), (2, vi a2)]) (st' := [vi x1]) (μ' := wI μ2 13 0 0 x1) (pc' := 19) [(.putfield 75, 12, 0, 0, 0), (.aload_n 0, 0, 0, 0, 0), (.getfield 75, 12, 0, 0, 0)] (by decide +kernel) rfl rfl ?_
    refine sIf_le oI (off := 5) (tgt := 24) (by decide +kernel) (by decide) (fun _ => ?_) (fun _ => ?_)
    · refine sBk (lo' := [(0, vr 13 0), (1, vi a1), (2, vi a2)]) (st' := [vi a2, vi a1, vr 13 0]) (μ' := wI μ2 13 0 0 x1) (pc' := 27) [(.aload_n 0, 0, 0, 0, 0), (.iload_n 1, 0, 0, 0, 0), (.iload_n 2, 0, 0, 0, 0)] (by decide +kernel) rfl rfl ?_
      refine sCvI oI rfl (ci := 12) (q := (13, 0)) (avs := [vi a1, vi a2]) (rest := []) (tX12_bestOf a1 a2 (wI μ2 13 0 0 x1)) (by decide) (by decide +kernel) lk_12_434 yv_X12_bestOf rfl (by decide) rfl rfl rfl (Nat.le_of_ble_eq_true rfl) (fun x3 μ4 => ?_)
      refine sBk (lo' := [(0, vr 13 0), (1, vi a1), (2, vi a2)]) (st' := [vi (rI μ4 13 0 29)]) (μ' := μ4) (pc' := 35) [(.pop, 0, 0, 0, 0), (.aload_n 0, 0, 0, 0, 0), (.getfield 426, 12, 29, 0, 0)] (by decide +kernel) rfl rfl ?_
      exact sRi (by decide +kernel) (fun h => by cases h)
    · refine sBk (lo' := [(0, vr 13 0), (1, vi a1), (2, vi a2)]) (st' := [vi (-1)]) (μ' := wI μ2 13 0 0 x1) (pc' := 23) [(.iconst (-1), 0, 0, (-1), 0)] (by decide +kernel) rfl rfl ?_
      exact sRi (by decide +kernel) (fun h => by cases h)
/-! ClockRiverModel.isHire -/
def X12_isHire (a0 : Int32) (a1 : Int32) (μ : sM) : Option (Int32 × sM) :=
  bI (X12_isIn (Int32.toInt64 a0) 1 4 μ) fun x1 μ2 =>
    if x1 = 0 then
      some (0, μ2)
    else
      bI (X12_isIn (Int32.toInt64 a1) 0 999 μ2) fun x3 μ4 =>
        if x3 = 0 then
          some (0, μ4)
        else
          some (1, μ4)
theorem tX12_isHire (a0 : Int32) (a1 : Int32) (μ : sM) : sMt yX12_isHire cX12_isHire 2 (some .boolean) 2 [vi a0, vi a1] μ (oI (X12_isHire a0 a1 μ)) := by
  refine sMt_of (own := 12) (bl := true) (by decide +kernel) rfl (Nat.le_of_ble_eq_true rfl) (fun r ρ h => ?_) ?_
  · obtain ⟨q, -, hq⟩ := Option.map_eq_some_iff.mp h
    cases hq
    exact Or.inr ⟨rfl, rfl⟩
  · unfold X12_isHire
    show sOk 12 cX12_isHire 2 2 true 0 [(0, vi a0), (1, vi a1)] [] μ _
    refine sBk (lo' := [(0, vi a0), (1, vi a1)]) (st' := [vl 4, vl 1, vl (Int32.toInt64 a0)]) (μ' := μ) (pc' := 6) [(.iload_n 0, 0, 0, 0, 0), (.i2l, 0, 0, 0, 0), (.lconst 1, 0, 0, 0, 1), (.ldc2_w 342, 0, 0, 0, 4)] (by decide +kernel) rfl rfl ?_
    refine sCsI oI rfl (avs := [vl (Int32.toInt64 a0), vl 1, vl 4]) (rest := []) (tX12_isIn (Int32.toInt64 a0) 1 4 μ) (by decide) (by decide +kernel) lk_12_107 ys_X12_isIn rfl rfl (Nat.le_of_ble_eq_true rfl) (fun x1 μ2 => ?_)
    refine sIf_eq oI (off := 19) (tgt := 28) (by decide +kernel) (by decide) (fun _ => ?_) (fun _ => ?_)
    · refine sBk (lo' := [(0, vi a0), (1, vi a1)]) (st' := [vi 0]) (μ' := μ2) (pc' := 29) [(.iconst 0, 0, 0, 0, 0)] (by decide +kernel) rfl rfl ?_
      exact sRi (by decide +kernel) (fun _ => Or.inl rfl)
    · refine sBk (lo' := [(0, vi a0), (1, vi a1)]) (st' := [vl 999, vl 0, vl (Int32.toInt64 a1)]) (μ' := μ2) (pc' := 18) [(.iload_n 1, 0, 0, 0, 0), (.i2l, 0, 0, 0, 0), (.lconst 0, 0, 0, 0, 0), (.ldc2_w 402, 0, 0, 0, 999)] (by decide +kernel) rfl rfl ?_
      refine sCsI oI rfl (avs := [vl (Int32.toInt64 a1), vl 0, vl 999]) (rest := []) (tX12_isIn (Int32.toInt64 a1) 0 999 μ2) (by decide) (by decide +kernel) lk_12_107 ys_X12_isIn rfl rfl (Nat.le_of_ble_eq_true rfl) (fun x3 μ4 => ?_)
      refine sIf_eq oI (off := 7) (tgt := 28) (by decide +kernel) (by decide) (fun _ => ?_) (fun _ => ?_)
      · refine sBk (lo' := [(0, vi a0), (1, vi a1)]) (st' := [vi 0]) (μ' := μ4) (pc' := 29) [(.iconst 0, 0, 0, 0, 0)] (by decide +kernel) rfl rfl ?_
        exact sRi (by decide +kernel) (fun _ => Or.inl rfl)
      · refine sBk (lo' := [(0, vi a0), (1, vi a1)]) (st' := [vi 1]) (μ' := μ4) (pc' := 25) [(.iconst 1, 0, 0, 1, 0)] (by decide +kernel) rfl rfl ?_
        refine sGt (off := 4) (tgt := 29) (by decide +kernel) (by decide) ?_
        exact sRi (by decide +kernel) (fun _ => Or.inr rfl)
/-! ClockRiverModel.laysTurn -/
def X12_laysTurn_L2 : Nat → Int32 → Int32 → sM → Option sM
  | 0, _, _, _ => none
  | n + 1, v1, v2, μ =>
    if 76 ≤ v2 then
      some μ
    else
      if inb v2 1740 = true then
        if inb ((76 * v1) + v2) 380 = true then
          X12_laysTurn_L2 n v1 (v2 + 1) (wI μ 67 0 (ix ((76 * v1) + v2)) (rI μ 61 0 (ix v2)))
        else none
      else none
theorem X12_laysTurn_L2_ok : ∀ (n : Nat) (v1 : Int32) (v2 : Int32) (μ : sM), sOk 12 cX12_laysTurn 3 1 false 2 [(0, vr 13 0), (1, vi v1), (2, vi v2)] [] μ (oV (X12_laysTurn_L2 n v1 v2 μ)) := by
  intro n
  induction n with
  | zero =>
    intros
    exact sNo
  | succ n ih =>
    intro v1 v2 μ
    unfold X12_laysTurn_L2
    refine sBk (lo' := [(0, vr 13 0), (1, vi v1), (2, vi v2)]) (st' := [vi 76, vi v2]) (μ' := μ) (pc' := 5) [(.iload_n 2, 0, 0, 0, 0), (.bipush 76, 0, 0, 76, 0)] (by decide +kernel) rfl rfl ?_
    refine sIc_ge oV (off := 26) (tgt := 31) (by decide +kernel) (by decide) (fun _ => ?_) (fun _ => ?_)
    · exact sRv (by decide +kernel)
    · refine sBk (lo' := [(0, vr 13 0), (1, vi v1), (2, vi v2)]) (st' := [vi v2, vr 61 0, vi ((76 * v1) + v2), vr 67 0]) (μ' := μ) (pc' := 23) [(.aload_n 0, 0, 0, 0, 0), (.getfield 53, 12, 30, 0, 0), (.bipush 76, 0, 0, 76, 0), (.iload_n 1, 0, 0, 0, 0), (.imul, 0, 0, 0, 0), (.iload_n 2, 0, 0, 0, 0), (.iadd, 0, 0, 0, 0), (.aload_n 0, 0, 0, 0, 0), (.getfield 35, 12, 20, 0, 0), (.iload_n 2, 0, 0, 0, 0)] (by decide +kernel) rfl rfl ?_
      refine sS_ial oV rfl (n := 1740) (j := (ix v2)) (by decide +kernel) rfl rfl rfl (fun _ => ?_)
      refine sS_ias oV rfl (n := 380) (j := (ix ((76 * v1) + v2))) (by decide +kernel) rfl rfl rfl (fun _ => ?_)
      refine sBk (lo' := [(2, vi (v2 + 1)), (0, vr 13 0), (1, vi v1)]) (st' := []) (μ' := wI μ 67 0 (ix ((76 * v1) + v2)) (rI μ 61 0 (ix v2))) (pc' := 28) [(.iinc 2 1, 0, 0, 1, 0)] (by decide +kernel) rfl rfl ?_
      refine sGt (off := (-26)) (tgt := 2) (by decide +kernel) (by decide) ?_
      refine sWk (lo' := [(0, vr 13 0), (1, vi v1), (2, vi (v2 + 1))]) [1, 2, 0] rfl ?_
      exact ih v1 (v2 + 1) (wI μ 67 0 (ix ((76 * v1) + v2)) (rI μ 61 0 (ix v2)))
def X12_laysTurn (a1 : Int32) (μ : sM) : Option sM :=
  X12_laysTurn_L2 fuN a1 0 μ
theorem tX12_laysTurn (a1 : Int32) (μ : sM) : sMt yX12_laysTurn cX12_laysTurn 3 none 1 [vr 13 0, vi a1] μ (oV (X12_laysTurn a1 μ)) := by
  refine sMt_of (own := 12) (bl := false) (by decide +kernel) rfl (Nat.le_of_ble_eq_true rfl) (fun r ρ h => ?_) ?_
  · obtain ⟨q, -, hq⟩ := Option.map_eq_some_iff.mp h
    cases hq
    exact rfl
  · unfold X12_laysTurn
    show sOk 12 cX12_laysTurn 3 1 false 0 [(0, vr 13 0), (1, vi a1)] [] μ _
    refine sBk (lo' := [(2, vi 0), (0, vr 13 0), (1, vi a1)]) (st' := []) (μ' := μ) (pc' := 2) [(.iconst 0, 0, 0, 0, 0), (.istore_n 2, 0, 0, 0, 0)] (by decide +kernel) rfl rfl ?_
    refine sWk (lo' := [(0, vr 13 0), (1, vi a1), (2, vi 0)]) [1, 2, 0] rfl ?_
    exact X12_laysTurn_L2_ok fuN a1 0 μ
/-! ClockRiverModel.takesTurn -/
def X12_takesTurn_L2 : Nat → Int32 → Int32 → sM → Option sM
  | 0, _, _, _ => none
  | n + 1, v1, v2, μ =>
    if 76 ≤ v2 then
      some μ
    else
      if inb ((76 * v1) + v2) 380 = true then
        if inb v2 1740 = true then
          X12_takesTurn_L2 n v1 (v2 + 1) (wI μ 61 0 (ix v2) (rI μ 67 0 (ix ((76 * v1) + v2))))
        else none
      else none
theorem X12_takesTurn_L2_ok : ∀ (n : Nat) (v1 : Int32) (v2 : Int32) (μ : sM), sOk 12 cX12_takesTurn 3 1 false 2 [(0, vr 13 0), (1, vi v1), (2, vi v2)] [] μ (oV (X12_takesTurn_L2 n v1 v2 μ)) := by
  intro n
  induction n with
  | zero =>
    intros
    exact sNo
  | succ n ih =>
    intro v1 v2 μ
    unfold X12_takesTurn_L2
    refine sBk (lo' := [(0, vr 13 0), (1, vi v1), (2, vi v2)]) (st' := [vi 76, vi v2]) (μ' := μ) (pc' := 5) [(.iload_n 2, 0, 0, 0, 0), (.bipush 76, 0, 0, 76, 0)] (by decide +kernel) rfl rfl ?_
    refine sIc_ge oV (off := 26) (tgt := 31) (by decide +kernel) (by decide) (fun _ => ?_) (fun _ => ?_)
    · exact sRv (by decide +kernel)
    · refine sBk (lo' := [(0, vr 13 0), (1, vi v1), (2, vi v2)]) (st' := [vi ((76 * v1) + v2), vr 67 0, vi v2, vr 61 0]) (μ' := μ) (pc' := 23) [(.aload_n 0, 0, 0, 0, 0), (.getfield 35, 12, 20, 0, 0), (.iload_n 2, 0, 0, 0, 0), (.aload_n 0, 0, 0, 0, 0), (.getfield 53, 12, 30, 0, 0), (.bipush 76, 0, 0, 76, 0), (.iload_n 1, 0, 0, 0, 0), (.imul, 0, 0, 0, 0), (.iload_n 2, 0, 0, 0, 0), (.iadd, 0, 0, 0, 0)] (by decide +kernel) rfl rfl ?_
      refine sS_ial oV rfl (n := 380) (j := (ix ((76 * v1) + v2))) (by decide +kernel) rfl rfl rfl (fun _ => ?_)
      refine sS_ias oV rfl (n := 1740) (j := (ix v2)) (by decide +kernel) rfl rfl rfl (fun _ => ?_)
      refine sBk (lo' := [(2, vi (v2 + 1)), (0, vr 13 0), (1, vi v1)]) (st' := []) (μ' := wI μ 61 0 (ix v2) (rI μ 67 0 (ix ((76 * v1) + v2)))) (pc' := 28) [(.iinc 2 1, 0, 0, 1, 0)] (by decide +kernel) rfl rfl ?_
      refine sGt (off := (-26)) (tgt := 2) (by decide +kernel) (by decide) ?_
      refine sWk (lo' := [(0, vr 13 0), (1, vi v1), (2, vi (v2 + 1))]) [1, 2, 0] rfl ?_
      exact ih v1 (v2 + 1) (wI μ 61 0 (ix v2) (rI μ 67 0 (ix ((76 * v1) + v2))))
def X12_takesTurn (a1 : Int32) (μ : sM) : Option sM :=
  X12_takesTurn_L2 fuN a1 0 μ
theorem tX12_takesTurn (a1 : Int32) (μ : sM) : sMt yX12_takesTurn cX12_takesTurn 3 none 1 [vr 13 0, vi a1] μ (oV (X12_takesTurn a1 μ)) := by
  refine sMt_of (own := 12) (bl := false) (by decide +kernel) rfl (Nat.le_of_ble_eq_true rfl) (fun r ρ h => ?_) ?_
  · obtain ⟨q, -, hq⟩ := Option.map_eq_some_iff.mp h
    cases hq
    exact rfl
  · unfold X12_takesTurn
    show sOk 12 cX12_takesTurn 3 1 false 0 [(0, vr 13 0), (1, vi a1)] [] μ _
    refine sBk (lo' := [(2, vi 0), (0, vr 13 0), (1, vi a1)]) (st' := []) (μ' := μ) (pc' := 2) [(.iconst 0, 0, 0, 0, 0), (.istore_n 2, 0, 0, 0, 0)] (by decide +kernel) rfl rfl ?_
    refine sWk (lo' := [(0, vr 13 0), (1, vi a1), (2, vi 0)]) [1, 2, 0] rfl ?_
    exact X12_takesTurn_L2_ok fuN a1 0 μ
/-! ClockRiverModel.hires -/
def X12_hires_L35 (rec : Int32 → Int32 → Int32 → Int32 → sM → Option sM) : Nat → Int32 → Int32 → sM → Option sM
  | 0, _, _, _ => none
  | n + 1, v2, v5, μ =>
    if v2 ≤ v5 then
      some μ
    else
      if inb v5 4 = true then
        if inb v5 4 = true then
          X12_hires_L35 rec n v2 (v5 + 1) (wI μ 69 0 (ix v5) (rI μ 68 0 (ix v5)))
        else none
      else none
theorem X12_hires_L35_ok {rec : Int32 → Int32 → Int32 → Int32 → sM → Option sM} {d0 : Nat} (hd : 2 ≤ d0) (hrec : ∀ (a1 : Int32) (a2 : Int32) (a3 : Int32) (a4 : Int32) (μ : sM), sMt yX12_hires cX12_hires 9 none d0 [vr 13 0, vi a1, vi a2, vi a3, vi a4] μ (oV (rec a1 a2 a3 a4 μ))) : ∀ (n : Nat) (v2 : Int32) (v5 : Int32) (μ : sM), sOk 12 cX12_hires 9 (d0 + 1) false 35 [(0, vr 13 0), (2, vi v2), (5, vi v5)] [] μ (oV (X12_hires_L35 rec n v2 v5 μ)) := by
  intro n
  induction n with
  | zero =>
    intros
    exact sNo
  | succ n ih =>
    intro v2 v5 μ
    unfold X12_hires_L35
    refine sBk (lo' := [(0, vr 13 0), (2, vi v2), (5, vi v5)]) (st' := [vi v2, vi v5]) (μ' := μ) (pc' := 38) [(.iload 5, 0, 0, 0, 0), (.iload_n 2, 0, 0, 0, 0)] (by decide +kernel) rfl rfl ?_
    refine sIc_ge oV (off := 23) (tgt := 61) (by decide +kernel) (by decide) (fun _ => ?_) (fun _ => ?_)
    · exact sRv (by decide +kernel)
    · refine sBk (lo' := [(0, vr 13 0), (2, vi v2), (5, vi v5)]) (st' := [vi v5, vr 68 0, vi v5, vr 69 0]) (μ' := μ) (pc' := 53) [(.aload_n 0, 0, 0, 0, 0), (.getfield 59, 12, 32, 0, 0), (.iload 5, 0, 0, 0, 0), (.aload_n 0, 0, 0, 0, 0), (.getfield 56, 12, 31, 0, 0), (.iload 5, 0, 0, 0, 0)] (by decide +kernel) rfl rfl ?_
      refine sS_ial oV rfl (n := 4) (j := (ix v5)) (by decide +kernel) rfl rfl rfl (fun _ => ?_)
      refine sS_ias oV rfl (n := 4) (j := (ix v5)) (by decide +kernel) rfl rfl rfl (fun _ => ?_)
      refine sBk (lo' := [(5, vi (v5 + 1)), (0, vr 13 0), (2, vi v2)]) (st' := []) (μ' := wI μ 69 0 (ix v5) (rI μ 68 0 (ix v5))) (pc' := 58) [(.iinc 5 1, 0, 0, 1, 0)] (by decide +kernel) rfl rfl ?_
      refine sGt (off := (-23)) (tgt := 35) (by decide +kernel) (by decide) ?_
      refine sWk (lo' := [(0, vr 13 0), (2, vi v2), (5, vi (v5 + 1))]) [1, 2, 0] rfl ?_
      exact ih v2 (v5 + 1) (wI μ 69 0 (ix v5) (rI μ 68 0 (ix v5)))
def X12_hires_J26 (rec : Int32 → Int32 → Int32 → Int32 → sM → Option sM) (v2 : Int32) (v4 : Int32) (μ : sM) : Option sM :=
  X12_hires_L35 rec fuN v2 0 (wI μ 13 0 33 v4)
theorem X12_hires_J26_ok {rec : Int32 → Int32 → Int32 → Int32 → sM → Option sM} {d0 : Nat} (hd : 2 ≤ d0) (hrec : ∀ (a1 : Int32) (a2 : Int32) (a3 : Int32) (a4 : Int32) (μ : sM), sMt yX12_hires cX12_hires 9 none d0 [vr 13 0, vi a1, vi a2, vi a3, vi a4] μ (oV (rec a1 a2 a3 a4 μ))) (v2 : Int32) (v4 : Int32) (μ : sM) : sOk 12 cX12_hires 9 (d0 + 1) false 26 [(0, vr 13 0), (2, vi v2), (4, vi v4)] [] μ (oV (X12_hires_J26 rec v2 v4 μ)) := by
  unfold X12_hires_J26
  refine sBk (lo' := [(5, vi 0), (0, vr 13 0), (2, vi v2), (4, vi v4)]) (st' := []) (μ' := wI μ 13 0 33 v4) (pc' := 35) [(.aload_n 0, 0, 0, 0, 0), (.iload 4, 0, 0, 0, 0), (.putfield 437, 12, 33, 0, 0), (.iconst 0, 0, 0, 0, 0), (.istore 5, 0, 0, 0, 0)] (by decide +kernel) rfl rfl ?_
  refine sWk (lo' := [(0, vr 13 0), (2, vi v2), (5, vi 0)]) [1, 2, 0] rfl ?_
  exact X12_hires_L35_ok hd hrec fuN v2 0 (wI μ 13 0 33 v4)
def X12_hires_J195 (rec : Int32 → Int32 → Int32 → Int32 → sM → Option sM) (k70 : Int32 → Int32 → Int32 → Int32 → Int32 → sM → Option sM) (v1 : Int32) (v2 : Int32) (v3 : Int32) (v4 : Int32) (v5 : Int32) (s0 : Int32) (s1 : Int32) (s2 : Int32) (s3 : Int32) (μ : sM) : Option sM :=
  bV (rec s3 s2 s1 s0 μ) fun μ2 =>
    bV (X12_takesTurn v1 μ2) fun μ4 =>
      k70 v1 v2 v3 v4 (v5 + 1) μ4
theorem X12_hires_J195_ok {rec : Int32 → Int32 → Int32 → Int32 → sM → Option sM} {d0 : Nat} (hd : 2 ≤ d0) (hrec : ∀ (a1 : Int32) (a2 : Int32) (a3 : Int32) (a4 : Int32) (μ : sM), sMt yX12_hires cX12_hires 9 none d0 [vr 13 0, vi a1, vi a2, vi a3, vi a4] μ (oV (rec a1 a2 a3 a4 μ))) {k70 : Int32 → Int32 → Int32 → Int32 → Int32 → sM → Option sM} (hk70 : ∀ (v1 : Int32) (v2 : Int32) (v3 : Int32) (v4 : Int32) (v5 : Int32) (μ : sM), sOk 12 cX12_hires 9 (d0 + 1) false 70 [(0, vr 13 0), (1, vi v1), (2, vi v2), (3, vi v3), (4, vi v4), (5, vi v5)] [] μ (oV (k70 v1 v2 v3 v4 v5 μ))) (v1 : Int32) (v2 : Int32) (v3 : Int32) (v4 : Int32) (v5 : Int32) (s0 : Int32) (s1 : Int32) (s2 : Int32) (s3 : Int32) (μ : sM) : sOk 12 cX12_hires 9 (d0 + 1) false 195 [(0, vr 13 0), (1, vi v1), (2, vi v2), (3, vi v3), (4, vi v4), (5, vi v5)] [vi s0, vi s1, vi s2, vi s3, vr 13 0] μ (oV (X12_hires_J195 rec k70 v1 v2 v3 v4 v5 s0 s1 s2 s3 μ)) := by
  unfold X12_hires_J195
  refine sCvV oV rfl (ci := 12) (q := (13, 0)) (avs := [vi s3, vi s2, vi s1, vi s0]) (rest := []) (hrec s3 s2 s1 s0 μ) (by omega) (by decide +kernel) lk_12_443 yv_X12_hires rfl (by decide) rfl rfl rfl (Nat.le_of_ble_eq_true rfl) (fun μ2 => ?_)
  refine sBk (lo' := [(0, vr 13 0), (1, vi v1), (2, vi v2), (3, vi v3), (4, vi v4), (5, vi v5)]) (st' := [vi v1, vr 13 0]) (μ' := μ2) (pc' := 200) [(.aload_n 0, 0, 0, 0, 0), (.iload_n 1, 0, 0, 0, 0)] (by decide +kernel) rfl rfl ?_
  refine sCvV oV rfl (ci := 12) (q := (13, 0)) (avs := [vi v1]) (rest := []) (tX12_takesTurn v1 μ2) (by omega) (by decide +kernel) lk_12_447 yv_X12_takesTurn rfl (by decide) rfl rfl rfl (Nat.le_of_ble_eq_true rfl) (fun μ4 => ?_)
  refine sBk (lo' := [(5, vi (v5 + 1)), (0, vr 13 0), (1, vi v1), (2, vi v2), (3, vi v3), (4, vi v4)]) (st' := []) (μ' := μ4) (pc' := 206) [(.iinc 5 1, 0, 0, 1, 0)] (by decide +kernel) rfl rfl ?_
  refine sGt (off := (-136)) (tgt := 70) (by decide +kernel) (by decide) ?_
  refine sWk (lo' := [(0, vr 13 0), (1, vi v1), (2, vi v2), (3, vi v3), (4, vi v4), (5, vi (v5 + 1))]) [1, 2, 3, 4, 5, 0] rfl ?_
  exact hk70 v1 v2 v3 v4 (v5 + 1) μ4
def X12_hires_J162 (rec : Int32 → Int32 → Int32 → Int32 → sM → Option sM) (k70 : Int32 → Int32 → Int32 → Int32 → Int32 → sM → Option sM) (v1 : Int32) (v2 : Int32) (v3 : Int32) (v4 : Int32) (v5 : Int32) (v6 : Int32) (v7 : Int32) (s0 : Int32) (s1 : Int32) (μ : sM) : Option sM :=
  if inb s1 4 = true then
    if v6 = 0 then
      if inb (58 + v5) 1740 = true then
        X12_hires_J195 rec k70 v1 v2 v3 v4 v5 (v4 + (rI μ 61 0 (ix (58 + v5)))) (v3 - v7) v2 (v1 + 1) (wI μ 68 0 (ix s1) s0)
      else none
    else
      X12_hires_J195 rec k70 v1 v2 v3 v4 v5 v4 (v3 - v7) v2 (v1 + 1) (wI μ 68 0 (ix s1) s0)
  else none
theorem X12_hires_J162_ok {rec : Int32 → Int32 → Int32 → Int32 → sM → Option sM} {d0 : Nat} (hd : 2 ≤ d0) (hrec : ∀ (a1 : Int32) (a2 : Int32) (a3 : Int32) (a4 : Int32) (μ : sM), sMt yX12_hires cX12_hires 9 none d0 [vr 13 0, vi a1, vi a2, vi a3, vi a4] μ (oV (rec a1 a2 a3 a4 μ))) {k70 : Int32 → Int32 → Int32 → Int32 → Int32 → sM → Option sM} (hk70 : ∀ (v1 : Int32) (v2 : Int32) (v3 : Int32) (v4 : Int32) (v5 : Int32) (μ : sM), sOk 12 cX12_hires 9 (d0 + 1) false 70 [(0, vr 13 0), (1, vi v1), (2, vi v2), (3, vi v3), (4, vi v4), (5, vi v5)] [] μ (oV (k70 v1 v2 v3 v4 v5 μ))) (v1 : Int32) (v2 : Int32) (v3 : Int32) (v4 : Int32) (v5 : Int32) (v6 : Int32) (v7 : Int32) (s0 : Int32) (s1 : Int32) (μ : sM) : sOk 12 cX12_hires 9 (d0 + 1) false 162 [(0, vr 13 0), (1, vi v1), (2, vi v2), (3, vi v3), (4, vi v4), (5, vi v5), (6, vi v6), (7, vi v7)] [vi s0, vi s1, vr 68 0] μ (oV (X12_hires_J162 rec k70 v1 v2 v3 v4 v5 v6 v7 s0 s1 μ)) := by
  unfold X12_hires_J162
  refine sS_ias oV rfl (n := 4) (j := (ix s1)) (by decide +kernel) rfl rfl rfl (fun _ => ?_)
  refine sBk (lo' := [(0, vr 13 0), (1, vi v1), (2, vi v2), (3, vi v3), (4, vi v4), (5, vi v5), (6, vi v6), (7, vi v7)]) (st' := [vi v6, vi (v3 - v7), vi v2, vi (v1 + 1), vr 13 0]) (μ' := wI μ 68 0 (ix s1) s0) (pc' := 174) [(.aload_n 0, 0, 0, 0, 0), (.iload_n 1, 0, 0, 0, 0), (.iconst 1, 0, 0, 1, 0), (.iadd, 0, 0, 0, 0), (.iload_n 2, 0, 0, 0, 0), (.iload_n 3, 0, 0, 0, 0), (.iload 7, 0, 0, 0, 0), (.isub, 0, 0, 0, 0), (.iload 6, 0, 0, 0, 0)] (by decide +kernel) rfl rfl ?_
  refine sIf_eq oV (off := 8) (tgt := 182) (by decide +kernel) (by decide) (fun _ => ?_) (fun _ => ?_)
  · refine sBk (lo' := [(0, vr 13 0), (1, vi v1), (2, vi v2), (3, vi v3), (4, vi v4), (5, vi v5), (6, vi v6), (7, vi v7)]) (st' := [vi (58 + v5), vr 61 0, vi v4, vi (v3 - v7), vi v2, vi (v1 + 1), vr 13 0]) (μ' := wI μ 68 0 (ix s1) s0) (pc' := 193) [(.iload 4, 0, 0, 0, 0), (.aload_n 0, 0, 0, 0, 0), (.getfield 35, 12, 20, 0, 0), (.bipush 58, 0, 0, 58, 0), (.iload 5, 0, 0, 0, 0), (.iadd, 0, 0, 0, 0)] (by decide +kernel) rfl rfl ?_
    refine sS_ial oV rfl (n := 1740) (j := (ix (58 + v5))) (by decide +kernel) rfl rfl rfl (fun _ => ?_)
    refine sBk (lo' := [(0, vr 13 0), (1, vi v1), (2, vi v2), (3, vi v3), (4, vi v4), (5, vi v5), (6, vi v6), (7, vi v7)]) (st' := [vi (v4 + (rI μ 61 0 (ix (58 + v5)))), vi (v3 - v7), vi v2, vi (v1 + 1), vr 13 0]) (μ' := wI μ 68 0 (ix s1) s0) (pc' := 195) [(.iadd, 0, 0, 0, 0)] (by decide +kernel) rfl rfl ?_
    refine sWk (lo' := [(0, vr 13 0), (1, vi v1), (2, vi v2), (3, vi v3), (4, vi v4), (5, vi v5)]) [0, 1, 2, 3, 4, 5] rfl ?_
    exact X12_hires_J195_ok hd hrec hk70 v1 v2 v3 v4 v5 (v4 + (rI μ 61 0 (ix (58 + v5)))) (v3 - v7) v2 (v1 + 1) (wI μ 68 0 (ix s1) s0)
  · refine sBk (lo' := [(0, vr 13 0), (1, vi v1), (2, vi v2), (3, vi v3), (4, vi v4), (5, vi v5), (6, vi v6), (7, vi v7)]) (st' := [vi v4, vi (v3 - v7), vi v2, vi (v1 + 1), vr 13 0]) (μ' := wI μ 68 0 (ix s1) s0) (pc' := 179) [(.iload 4, 0, 0, 0, 0)] (by decide +kernel) rfl rfl ?_
    refine sGt (off := 16) (tgt := 195) (by decide +kernel) (by decide) ?_
    refine sWk (lo' := [(0, vr 13 0), (1, vi v1), (2, vi v2), (3, vi v3), (4, vi v4), (5, vi v5)]) [0, 1, 2, 3, 4, 5] rfl ?_
    exact X12_hires_J195_ok hd hrec hk70 v1 v2 v3 v4 v5 v4 (v3 - v7) v2 (v1 + 1) (wI μ 68 0 (ix s1) s0)
def X12_hires_L124 (rec : Int32 → Int32 → Int32 → Int32 → sM → Option sM) (k70 : Int32 → Int32 → Int32 → Int32 → Int32 → sM → Option sM) : Nat → Int32 → Int32 → Int32 → Int32 → Int32 → Int32 → Int32 → Int32 → sM → Option sM
  | 0, _, _, _, _, _, _, _, _, _ => none
  | n + 1, v1, v2, v3, v4, v5, v6, v7, v8, μ =>
    if 4 ≤ v8 then
      if v6 = 0 then
        X12_hires_J162 rec k70 v1 v2 v3 v4 v5 v6 v7 v5 v1 μ
      else
        X12_hires_J162 rec k70 v1 v2 v3 v4 v5 v6 v7 6 v1 μ
    else
      bI (X12_goesHour μ) fun x1 μ2 =>
        X12_hires_L124 rec k70 n v1 v2 v3 v4 v5 v6 (v7 + x1) (v8 + 1) μ2
theorem X12_hires_L124_ok {rec : Int32 → Int32 → Int32 → Int32 → sM → Option sM} {d0 : Nat} (hd : 2 ≤ d0) (hrec : ∀ (a1 : Int32) (a2 : Int32) (a3 : Int32) (a4 : Int32) (μ : sM), sMt yX12_hires cX12_hires 9 none d0 [vr 13 0, vi a1, vi a2, vi a3, vi a4] μ (oV (rec a1 a2 a3 a4 μ))) {k70 : Int32 → Int32 → Int32 → Int32 → Int32 → sM → Option sM} (hk70 : ∀ (v1 : Int32) (v2 : Int32) (v3 : Int32) (v4 : Int32) (v5 : Int32) (μ : sM), sOk 12 cX12_hires 9 (d0 + 1) false 70 [(0, vr 13 0), (1, vi v1), (2, vi v2), (3, vi v3), (4, vi v4), (5, vi v5)] [] μ (oV (k70 v1 v2 v3 v4 v5 μ))) : ∀ (n : Nat) (v1 : Int32) (v2 : Int32) (v3 : Int32) (v4 : Int32) (v5 : Int32) (v6 : Int32) (v7 : Int32) (v8 : Int32) (μ : sM), sOk 12 cX12_hires 9 (d0 + 1) false 124 [(0, vr 13 0), (1, vi v1), (2, vi v2), (3, vi v3), (4, vi v4), (5, vi v5), (6, vi v6), (7, vi v7), (8, vi v8)] [] μ (oV (X12_hires_L124 rec k70 n v1 v2 v3 v4 v5 v6 v7 v8 μ)) := by
  intro n
  induction n with
  | zero =>
    intros
    exact sNo
  | succ n ih =>
    intro v1 v2 v3 v4 v5 v6 v7 v8 μ
    unfold X12_hires_L124
    refine sBk (lo' := [(0, vr 13 0), (1, vi v1), (2, vi v2), (3, vi v3), (4, vi v4), (5, vi v5), (6, vi v6), (7, vi v7), (8, vi v8)]) (st' := [vi 4, vi v8]) (μ' := μ) (pc' := 127) [(.iload 8, 0, 0, 0, 0), (.iconst 4, 0, 0, 4, 0)] (by decide +kernel) rfl rfl ?_
    refine sIc_ge oV (off := 18) (tgt := 145) (by decide +kernel) (by decide) (fun _ => ?_) (fun _ => ?_)
    · refine sBk (lo' := [(0, vr 13 0), (1, vi v1), (2, vi v2), (3, vi v3), (4, vi v4), (5, vi v5), (6, vi v6), (7, vi v7), (8, vi v8)]) (st' := [vi v6, vi v1, vr 68 0]) (μ' := μ) (pc' := 152) [(.aload_n 0, 0, 0, 0, 0), (.getfield 56, 12, 31, 0, 0), (.iload_n 1, 0, 0, 0, 0), (.iload 6, 0, 0, 0, 0)] (by decide +kernel) rfl rfl ?_
      refine sIf_eq oV (off := 8) (tgt := 160) (by decide +kernel) (by decide) (fun _ => ?_) (fun _ => ?_)
      · refine sBk (lo' := [(0, vr 13 0), (1, vi v1), (2, vi v2), (3, vi v3), (4, vi v4), (5, vi v5), (6, vi v6), (7, vi v7), (8, vi v8)]) (st' := [vi v5, vi v1, vr 68 0]) (μ' := μ) (pc' := 162) [(.iload 5, 0, 0, 0, 0)] (by decide +kernel) rfl rfl ?_
        refine sWk (lo' := [(0, vr 13 0), (1, vi v1), (2, vi v2), (3, vi v3), (4, vi v4), (5, vi v5), (6, vi v6), (7, vi v7)]) [0, 1, 2, 3, 4, 5, 6, 7] rfl ?_
        exact X12_hires_J162_ok hd hrec hk70 v1 v2 v3 v4 v5 v6 v7 v5 v1 μ
      · refine sBk (lo' := [(0, vr 13 0), (1, vi v1), (2, vi v2), (3, vi v3), (4, vi v4), (5, vi v5), (6, vi v6), (7, vi v7), (8, vi v8)]) (st' := [vi 6, vi v1, vr 68 0]) (μ' := μ) (pc' := 157) [(.bipush 6, 0, 0, 6, 0)] (by decide +kernel) rfl rfl ?_
        refine sGt (off := 5) (tgt := 162) (by decide +kernel) (by decide) ?_
        refine sWk (lo' := [(0, vr 13 0), (1, vi v1), (2, vi v2), (3, vi v3), (4, vi v4), (5, vi v5), (6, vi v6), (7, vi v7)]) [0, 1, 2, 3, 4, 5, 6, 7] rfl ?_
        exact X12_hires_J162_ok hd hrec hk70 v1 v2 v3 v4 v5 v6 v7 6 v1 μ
    · refine sBk (lo' := [(0, vr 13 0), (1, vi v1), (2, vi v2), (3, vi v3), (4, vi v4), (5, vi v5), (6, vi v6), (7, vi v7), (8, vi v8)]) (st' := [vr 13 0, vi v7]) (μ' := μ) (pc' := 133) [(.iload 7, 0, 0, 0, 0), (.aload_n 0, 0, 0, 0, 0)] (by decide +kernel) rfl rfl ?_
      refine sCvI oV rfl (ci := 12) (q := (13, 0)) (avs := []) (rest := [vi v7]) (tX12_goesHour μ) (by omega) (by decide +kernel) lk_12_382 yv_X12_goesHour rfl (by decide) rfl rfl rfl (Nat.le_of_ble_eq_true rfl) (fun x1 μ2 => ?_)
      refine sBk (lo' := [(8, vi (v8 + 1)), (7, vi (v7 + x1)), (0, vr 13 0), (1, vi v1), (2, vi v2), (3, vi v3), (4, vi v4), (5, vi v5), (6, vi v6)]) (st' := []) (μ' := μ2) (pc' := 142) [(.iadd, 0, 0, 0, 0), (.istore 7, 0, 0, 0, 0), (.iinc 8 1, 0, 0, 1, 0)] (by decide +kernel) rfl rfl ?_
      refine sGt (off := (-18)) (tgt := 124) (by decide +kernel) (by decide) ?_
      refine sWk (lo' := [(0, vr 13 0), (1, vi v1), (2, vi v2), (3, vi v3), (4, vi v4), (5, vi v5), (6, vi v6), (7, vi (v7 + x1)), (8, vi (v8 + 1))]) [2, 3, 4, 5, 6, 7, 8, 1, 0] rfl ?_
      exact ih v1 v2 v3 v4 v5 v6 (v7 + x1) (v8 + 1) μ2
def X12_hires_J118 (rec : Int32 → Int32 → Int32 → Int32 → sM → Option sM) (k70 : Int32 → Int32 → Int32 → Int32 → Int32 → sM → Option sM) (v1 : Int32) (v2 : Int32) (v3 : Int32) (v4 : Int32) (v5 : Int32) (v6 : Int32) (μ : sM) : Option sM :=
  X12_hires_L124 rec k70 fuN v1 v2 v3 v4 v5 v6 0 0 μ
theorem X12_hires_J118_ok {rec : Int32 → Int32 → Int32 → Int32 → sM → Option sM} {d0 : Nat} (hd : 2 ≤ d0) (hrec : ∀ (a1 : Int32) (a2 : Int32) (a3 : Int32) (a4 : Int32) (μ : sM), sMt yX12_hires cX12_hires 9 none d0 [vr 13 0, vi a1, vi a2, vi a3, vi a4] μ (oV (rec a1 a2 a3 a4 μ))) {k70 : Int32 → Int32 → Int32 → Int32 → Int32 → sM → Option sM} (hk70 : ∀ (v1 : Int32) (v2 : Int32) (v3 : Int32) (v4 : Int32) (v5 : Int32) (μ : sM), sOk 12 cX12_hires 9 (d0 + 1) false 70 [(0, vr 13 0), (1, vi v1), (2, vi v2), (3, vi v3), (4, vi v4), (5, vi v5)] [] μ (oV (k70 v1 v2 v3 v4 v5 μ))) (v1 : Int32) (v2 : Int32) (v3 : Int32) (v4 : Int32) (v5 : Int32) (v6 : Int32) (μ : sM) : sOk 12 cX12_hires 9 (d0 + 1) false 118 [(0, vr 13 0), (1, vi v1), (2, vi v2), (3, vi v3), (4, vi v4), (5, vi v5), (6, vi v6)] [] μ (oV (X12_hires_J118 rec k70 v1 v2 v3 v4 v5 v6 μ)) := by
  unfold X12_hires_J118
  refine sBk (lo' := [(8, vi 0), (7, vi 0), (0, vr 13 0), (1, vi v1), (2, vi v2), (3, vi v3), (4, vi v4), (5, vi v5), (6, vi v6)]) (st' := []) (μ' := μ) (pc' := 124) [(.iconst 0, 0, 0, 0, 0), (.istore 7, 0, 0, 0, 0), (.iconst 0, 0, 0, 0, 0), (.istore 8, 0, 0, 0, 0)] (by decide +kernel) rfl rfl ?_
  refine sWk (lo' := [(0, vr 13 0), (1, vi v1), (2, vi v2), (3, vi v3), (4, vi v4), (5, vi v5), (6, vi v6), (7, vi 0), (8, vi 0)]) [2, 3, 4, 5, 6, 7, 8, 1, 0] rfl ?_
  exact X12_hires_L124_ok hd hrec hk70 fuN v1 v2 v3 v4 v5 v6 0 0 μ
def X12_hires_J97 (rec : Int32 → Int32 → Int32 → Int32 → sM → Option sM) (k70 : Int32 → Int32 → Int32 → Int32 → Int32 → sM → Option sM) (v1 : Int32) (v2 : Int32) (v3 : Int32) (v4 : Int32) (v5 : Int32) (s0 : Int32) (μ : sM) : Option sM :=
  if s0 = 0 then
    if inb (52 + v5) 1740 = true then
      bV (X12_turnsBy (rI μ 61 0 (ix (52 + v5))) μ) fun μ2 =>
        X12_hires_J118 rec k70 v1 v2 v3 v4 v5 s0 μ2
    else none
  else
    X12_hires_J118 rec k70 v1 v2 v3 v4 v5 s0 μ
theorem X12_hires_J97_ok {rec : Int32 → Int32 → Int32 → Int32 → sM → Option sM} {d0 : Nat} (hd : 2 ≤ d0) (hrec : ∀ (a1 : Int32) (a2 : Int32) (a3 : Int32) (a4 : Int32) (μ : sM), sMt yX12_hires cX12_hires 9 none d0 [vr 13 0, vi a1, vi a2, vi a3, vi a4] μ (oV (rec a1 a2 a3 a4 μ))) {k70 : Int32 → Int32 → Int32 → Int32 → Int32 → sM → Option sM} (hk70 : ∀ (v1 : Int32) (v2 : Int32) (v3 : Int32) (v4 : Int32) (v5 : Int32) (μ : sM), sOk 12 cX12_hires 9 (d0 + 1) false 70 [(0, vr 13 0), (1, vi v1), (2, vi v2), (3, vi v3), (4, vi v4), (5, vi v5)] [] μ (oV (k70 v1 v2 v3 v4 v5 μ))) (v1 : Int32) (v2 : Int32) (v3 : Int32) (v4 : Int32) (v5 : Int32) (s0 : Int32) (μ : sM) : sOk 12 cX12_hires 9 (d0 + 1) false 97 [(0, vr 13 0), (1, vi v1), (2, vi v2), (3, vi v3), (4, vi v4), (5, vi v5)] [vi s0] μ (oV (X12_hires_J97 rec k70 v1 v2 v3 v4 v5 s0 μ)) := by
  unfold X12_hires_J97
  refine sBk (lo' := [(6, vi s0), (0, vr 13 0), (1, vi v1), (2, vi v2), (3, vi v3), (4, vi v4), (5, vi v5)]) (st' := [vi s0]) (μ' := μ) (pc' := 101) [(.istore 6, 0, 0, 0, 0), (.iload 6, 0, 0, 0, 0)] (by decide +kernel) rfl rfl ?_
  refine sIf_ne oV (off := 17) (tgt := 118) (by decide +kernel) (by decide) (fun _ => ?_) (fun _ => ?_)
  · refine sWk (lo' := [(0, vr 13 0), (1, vi v1), (2, vi v2), (3, vi v3), (4, vi v4), (5, vi v5), (6, vi s0)]) [1, 2, 3, 4, 5, 6, 0] rfl ?_
    exact X12_hires_J118_ok hd hrec hk70 v1 v2 v3 v4 v5 s0 μ
  · refine sBk (lo' := [(6, vi s0), (0, vr 13 0), (1, vi v1), (2, vi v2), (3, vi v3), (4, vi v4), (5, vi v5)]) (st' := [vi (52 + v5), vr 61 0, vr 13 0]) (μ' := μ) (pc' := 114) [(.aload_n 0, 0, 0, 0, 0), (.aload_n 0, 0, 0, 0, 0), (.getfield 35, 12, 20, 0, 0), (.bipush 52, 0, 0, 52, 0), (.iload 5, 0, 0, 0, 0), (.iadd, 0, 0, 0, 0)] (by decide +kernel) rfl rfl ?_
    refine sS_ial oV rfl (n := 1740) (j := (ix (52 + v5))) (by decide +kernel) rfl rfl rfl (fun _ => ?_)
    refine sCvV oV rfl (ci := 12) (q := (13, 0)) (avs := [vi (rI μ 61 0 (ix (52 + v5)))]) (rest := []) (tX12_turnsBy (rI μ 61 0 (ix (52 + v5))) μ) (by omega) (by decide +kernel) lk_12_388 yv_X12_turnsBy rfl (by decide) rfl rfl rfl (Nat.le_of_ble_eq_true rfl) (fun μ2 => ?_)
    refine sWk (lo' := [(0, vr 13 0), (1, vi v1), (2, vi v2), (3, vi v3), (4, vi v4), (5, vi v5), (6, vi s0)]) [1, 2, 3, 4, 5, 6, 0] rfl ?_
    exact X12_hires_J118_ok hd hrec hk70 v1 v2 v3 v4 v5 s0 μ2
def X12_hires_L70 (rec : Int32 → Int32 → Int32 → Int32 → sM → Option sM) : Nat → Int32 → Int32 → Int32 → Int32 → Int32 → sM → Option sM
  | 0, _, _, _, _, _, _ => none
  | n + 1, v1, v2, v3, v4, v5, μ =>
    if (rI μ 61 0 2) < v5 then
      some μ
    else
      if v5 = (rI μ 61 0 2) then
        X12_hires_J97 rec (X12_hires_L70 rec n) v1 v2 v3 v4 v5 1 μ
      else
        X12_hires_J97 rec (X12_hires_L70 rec n) v1 v2 v3 v4 v5 0 μ
theorem X12_hires_L70_ok {rec : Int32 → Int32 → Int32 → Int32 → sM → Option sM} {d0 : Nat} (hd : 2 ≤ d0) (hrec : ∀ (a1 : Int32) (a2 : Int32) (a3 : Int32) (a4 : Int32) (μ : sM), sMt yX12_hires cX12_hires 9 none d0 [vr 13 0, vi a1, vi a2, vi a3, vi a4] μ (oV (rec a1 a2 a3 a4 μ))) : ∀ (n : Nat) (v1 : Int32) (v2 : Int32) (v3 : Int32) (v4 : Int32) (v5 : Int32) (μ : sM), sOk 12 cX12_hires 9 (d0 + 1) false 70 [(0, vr 13 0), (1, vi v1), (2, vi v2), (3, vi v3), (4, vi v4), (5, vi v5)] [] μ (oV (X12_hires_L70 rec n v1 v2 v3 v4 v5 μ)) := by
  intro n
  induction n with
  | zero =>
    intros
    exact sNo
  | succ n ih =>
    intro v1 v2 v3 v4 v5 μ
    unfold X12_hires_L70
    refine sBk (lo' := [(0, vr 13 0), (1, vi v1), (2, vi v2), (3, vi v3), (4, vi v4), (5, vi v5)]) (st' := [vi 2, vr 61 0, vi v5]) (μ' := μ) (pc' := 77) [(.iload 5, 0, 0, 0, 0), (.aload_n 0, 0, 0, 0, 0), (.getfield 35, 12, 20, 0, 0), (.iconst 2, 0, 0, 2, 0)] (by decide +kernel) rfl rfl ?_
    refine sC_ial (n := 1740) (j := 2) (by decide +kernel) (by decide +kernel) rfl rfl (by decide +kernel) ?_
    refine sIc_gt oV (off := 131) (tgt := 209) (by decide +kernel) (by decide) (fun _ => ?_) (fun _ => ?_)
    · exact sRv (by decide +kernel)
    · refine sBk (lo' := [(0, vr 13 0), (1, vi v1), (2, vi v2), (3, vi v3), (4, vi v4), (5, vi v5)]) (st' := [vi 2, vr 61 0, vi v5]) (μ' := μ) (pc' := 88) [(.iload 5, 0, 0, 0, 0), (.aload_n 0, 0, 0, 0, 0), (.getfield 35, 12, 20, 0, 0), (.iconst 2, 0, 0, 2, 0)] (by decide +kernel) rfl rfl ?_
      refine sC_ial (n := 1740) (j := 2) (by decide +kernel) (by decide +kernel) rfl rfl (by decide +kernel) ?_
      refine sIc_ne oV (off := 7) (tgt := 96) (by decide +kernel) (by decide) (fun _ => ?_) (fun _ => ?_)
      · refine sBk (lo' := [(0, vr 13 0), (1, vi v1), (2, vi v2), (3, vi v3), (4, vi v4), (5, vi v5)]) (st' := [vi 0]) (μ' := μ) (pc' := 97) [(.iconst 0, 0, 0, 0, 0)] (by decide +kernel) rfl rfl ?_
        exact X12_hires_J97_ok hd hrec ih v1 v2 v3 v4 v5 0 μ
      · refine sBk (lo' := [(0, vr 13 0), (1, vi v1), (2, vi v2), (3, vi v3), (4, vi v4), (5, vi v5)]) (st' := [vi 1]) (μ' := μ) (pc' := 93) [(.iconst 1, 0, 0, 1, 0)] (by decide +kernel) rfl rfl ?_
        refine sGt (off := 4) (tgt := 97) (by decide +kernel) (by decide) ?_
        exact X12_hires_J97_ok hd hrec ih v1 v2 v3 v4 v5 1 μ
def X12_hires_ (rec : Int32 → Int32 → Int32 → Int32 → sM → Option sM) (a1 : Int32) (a2 : Int32) (a3 : Int32) (a4 : Int32) (μ : sM) : Option sM :=
  if a1 = a2 then
    if 0 < a3 then
      some μ
    else
      if (rI μ 13 0 33) < 0 then
        X12_hires_J26 rec a2 a4 μ
      else
        if a4 < (rI μ 13 0 33) then
          X12_hires_J26 rec a2 a4 μ
        else
          some μ
  else
    bV (X12_laysTurn a1 μ) fun μ2 =>
      X12_hires_L70 rec fuN a1 a2 a3 a4 0 μ2
theorem tX12_hires_ {rec : Int32 → Int32 → Int32 → Int32 → sM → Option sM} {d0 : Nat} (hd : 2 ≤ d0) (hrec : ∀ (a1 : Int32) (a2 : Int32) (a3 : Int32) (a4 : Int32) (μ : sM), sMt yX12_hires cX12_hires 9 none d0 [vr 13 0, vi a1, vi a2, vi a3, vi a4] μ (oV (rec a1 a2 a3 a4 μ))) (a1 : Int32) (a2 : Int32) (a3 : Int32) (a4 : Int32) (μ : sM) : sMt yX12_hires cX12_hires 9 none (d0 + 1) [vr 13 0, vi a1, vi a2, vi a3, vi a4] μ (oV (X12_hires_ rec a1 a2 a3 a4 μ)) := by
  refine sMt_of (own := 12) (bl := false) (by decide +kernel) rfl (Nat.le_of_ble_eq_true rfl) (fun r ρ h => ?_) ?_
  · obtain ⟨q, -, hq⟩ := Option.map_eq_some_iff.mp h
    cases hq
    exact rfl
  · unfold X12_hires_
    show sOk 12 cX12_hires 9 (d0 + 1) false 0 [(0, vr 13 0), (1, vi a1), (2, vi a2), (3, vi a3), (4, vi a4)] [] μ _
    refine sBk (lo' := [(0, vr 13 0), (1, vi a1), (2, vi a2), (3, vi a3), (4, vi a4)]) (st' := [vi a2, vi a1]) (μ' := μ) (pc' := 2) [(.iload_n 1, 0, 0, 0, 0), (.iload_n 2, 0, 0, 0, 0)] (by decide +kernel) rfl rfl ?_
    refine sIc_ne oV (off := 60) (tgt := 62) (by decide +kernel) (by decide) (fun _ => ?_) (fun _ => ?_)
    · refine sBk (lo' := [(0, vr 13 0), (1, vi a1), (2, vi a2), (3, vi a3), (4, vi a4)]) (st' := [vi a1, vr 13 0]) (μ' := μ) (pc' := 64) [(.aload_n 0, 0, 0, 0, 0), (.iload_n 1, 0, 0, 0, 0)] (by decide +kernel) rfl rfl ?_
      refine sCvV oV rfl (ci := 12) (q := (13, 0)) (avs := [vi a1]) (rest := []) (tX12_laysTurn a1 μ) (by omega) (by decide +kernel) lk_12_440 yv_X12_laysTurn rfl (by decide) rfl rfl rfl (Nat.le_of_ble_eq_true rfl) (fun μ2 => ?_)
      refine sBk (lo' := [(5, vi 0), (0, vr 13 0), (1, vi a1), (2, vi a2), (3, vi a3), (4, vi a4)]) (st' := []) (μ' := μ2) (pc' := 70) [(.iconst 0, 0, 0, 0, 0), (.istore 5, 0, 0, 0, 0)] (by decide +kernel) rfl rfl ?_
      refine sWk (lo' := [(0, vr 13 0), (1, vi a1), (2, vi a2), (3, vi a3), (4, vi a4), (5, vi 0)]) [1, 2, 3, 4, 5, 0] rfl ?_
      exact X12_hires_L70_ok hd hrec fuN a1 a2 a3 a4 0 μ2
    · refine sBk (lo' := [(0, vr 13 0), (1, vi a1), (2, vi a2), (3, vi a3), (4, vi a4)]) (st' := [vi a3]) (μ' := μ) (pc' := 6) [(.iload_n 3, 0, 0, 0, 0)] (by decide +kernel) rfl rfl ?_
      refine sIf_gt oV (off := 19) (tgt := 25) (by decide +kernel) (by decide) (fun _ => ?_) (fun _ => ?_)
      · exact sRv (by decide +kernel)
      · refine sBk (lo' := [(0, vr 13 0), (1, vi a1), (2, vi a2), (3, vi a3), (4, vi a4)]) (st' := [vi (rI μ 13 0 33)]) (μ' := μ) (pc' := 13) [(.aload_n 0, 0, 0, 0, 0), (.getfield 437, 12, 33, 0, 0)] (by decide +kernel) rfl rfl ?_
        refine sIf_lt oV (off := 13) (tgt := 26) (by decide +kernel) (by decide) (fun _ => ?_) (fun _ => ?_)
        · refine sWk (lo' := [(0, vr 13 0), (2, vi a2), (4, vi a4)]) [0, 2, 4] rfl ?_
          exact X12_hires_J26_ok hd hrec a2 a4 μ
        · refine sBk (lo' := [(0, vr 13 0), (1, vi a1), (2, vi a2), (3, vi a3), (4, vi a4)]) (st' := [vi (rI μ 13 0 33), vi a4]) (μ' := μ) (pc' := 22) [(.iload 4, 0, 0, 0, 0), (.aload_n 0, 0, 0, 0, 0), (.getfield 437, 12, 33, 0, 0)] (by decide +kernel) rfl rfl ?_
          refine sIc_lt oV (off := 4) (tgt := 26) (by decide +kernel) (by decide) (fun _ => ?_) (fun _ => ?_)
          · refine sWk (lo' := [(0, vr 13 0), (2, vi a2), (4, vi a4)]) [0, 2, 4] rfl ?_
            exact X12_hires_J26_ok hd hrec a2 a4 μ
          · exact sRv (by decide +kernel)
def X12_hiresN : Nat → Int32 → Int32 → Int32 → Int32 → sM → Option sM
  | 0 => fun _ _ _ _ _ => none
  | n + 1 => X12_hires_ (X12_hiresN n)
theorem tX12_hiresN : ∀ (n : Nat) (a1 : Int32) (a2 : Int32) (a3 : Int32) (a4 : Int32) (μ : sM), sMt yX12_hires cX12_hires 9 none (2 + n) [vr 13 0, vi a1, vi a2, vi a3, vi a4] μ (oV (X12_hiresN n a1 a2 a3 a4 μ))
  | 0, _, _, _, _, _ => fun _ _ h => by cases h
  | n + 1, a1, a2, a3, a4, μ => tX12_hires_ (d0 := 2 + n) (by omega) (fun a1 a2 a3 a4 μ => tX12_hiresN n a1 a2 a3 a4 μ) a1 a2 a3 a4 μ
def X12_hires (a1 : Int32) (a2 : Int32) (a3 : Int32) (a4 : Int32) (μ : sM) : Option sM := X12_hiresN 6 a1 a2 a3 a4 μ
theorem tX12_hires (a1 : Int32) (a2 : Int32) (a3 : Int32) (a4 : Int32) (μ : sM) : sMt yX12_hires cX12_hires 9 none 8 [vr 13 0, vi a1, vi a2, vi a3, vi a4] μ (oV (X12_hires a1 a2 a3 a4 μ)) := tX12_hiresN 6 a1 a2 a3 a4 μ
/-! ClockRiverModel.isHired -/
def X12_isHired (a1 : Int32) (a2 : Int32) (μ : sM) : Option (Int32 × sM) :=
  bV (X12_hires 0 a1 a2 0 (wI μ 13 0 33 (-1))) fun μ2 =>
    if (rI μ2 13 0 33) < 0 then
      some (0, μ2)
    else
      some (1, μ2)
theorem tX12_isHired (a1 : Int32) (a2 : Int32) (μ : sM) : sMt yX12_isHired cX12_isHired 3 (some .boolean) 9 [vr 13 0, vi a1, vi a2] μ (oI (X12_isHired a1 a2 μ)) := by
  refine sMt_of (own := 12) (bl := true) (by decide +kernel) rfl (Nat.le_of_ble_eq_true rfl) (fun r ρ h => ?_) ?_
  · obtain ⟨q, -, hq⟩ := Option.map_eq_some_iff.mp h
    cases hq
    exact Or.inr ⟨rfl, rfl⟩
  · unfold X12_isHired
    show sOk 12 cX12_isHired 3 9 true 0 [(0, vr 13 0), (1, vi a1), (2, vi a2)] [] μ _
    refine sBk (lo' := [(0, vr 13 0), (1, vi a1), (2, vi a2)]) (st' := [vi 0, vi a2, vi a1, vi 0, vr 13 0]) (μ' := wI μ 13 0 33 (-1)) (pc' := 10) [(.aload_n 0, 0, 0, 0, 0), (.iconst (-1), 0, 0, (-1), 0), (.putfield 437, 12, 33, 0, 0), (.aload_n 0, 0, 0, 0, 0), (.iconst 0, 0, 0, 0, 0), (.iload_n 1, 0, 0, 0, 0), (.iload_n 2, 0, 0, 0, 0), (.iconst 0, 0, 0, 0, 0)] (by decide +kernel) rfl rfl ?_
    refine sCvV oI rfl (ci := 12) (q := (13, 0)) (avs := [vi 0, vi a1, vi a2, vi 0]) (rest := []) (tX12_hires 0 a1 a2 0 (wI μ 13 0 33 (-1))) (by decide) (by decide +kernel) lk_12_443 yv_X12_hires rfl (by decide) rfl rfl rfl (Nat.le_of_ble_eq_true rfl) (fun μ2 => ?_)
    refine sBk (lo' := [(0, vr 13 0), (1, vi a1), (2, vi a2)]) (st' := [vi (rI μ2 13 0 33)]) (μ' := μ2) (pc' := 17) [(.aload_n 0, 0, 0, 0, 0), (.getfield 437, 12, 33, 0, 0)] (by decide +kernel) rfl rfl ?_
    refine sIf_lt oI (off := 7) (tgt := 24) (by decide +kernel) (by decide) (fun _ => ?_) (fun _ => ?_)
    · refine sBk (lo' := [(0, vr 13 0), (1, vi a1), (2, vi a2)]) (st' := [vi 0]) (μ' := μ2) (pc' := 25) [(.iconst 0, 0, 0, 0, 0)] (by decide +kernel) rfl rfl ?_
      exact sRi (by decide +kernel) (fun _ => Or.inl rfl)
    · refine sBk (lo' := [(0, vr 13 0), (1, vi a1), (2, vi a2)]) (st' := [vi 1]) (μ' := μ2) (pc' := 21) [(.iconst 1, 0, 0, 1, 0)] (by decide +kernel) rfl rfl ?_
      refine sGt (off := 4) (tgt := 25) (by decide +kernel) (by decide) ?_
      exact sRi (by decide +kernel) (fun _ => Or.inr rfl)
/-! ClockRiverModel.hire -/
def X12_hire (a1 : Int32) (a2 : Int32) (μ : sM) : Option (Int32 × sM) :=
  bI (X12_isHire a1 a2 (wI (wI μ 13 0 1 0) 13 0 0 0)) fun x1 μ2 =>
    if x1 = 0 then
      bI (X12_refuse 5 μ2) fun x7 μ8 =>
        some (x7, μ8)
    else
      bI (X12_isHired a1 a2 μ2) fun x3 μ4 =>
        if x3 = 0 then
          bI (X12_refuse 8 μ4) fun x5 μ6 =>
            some (x5, μ6)
        else
          some ((rI μ4 13 0 33), μ4)
theorem tX12_hire (a1 : Int32) (a2 : Int32) (μ : sM) : sMt yX12_hire cX12_hire 3 (some .int) 10 [vr 13 0, vi a1, vi a2] μ (oI (X12_hire a1 a2 μ)) := by
  refine sMt_of (own := 12) (bl := false) (by decide +kernel) rfl (Nat.le_of_ble_eq_true rfl) (fun r ρ h => ?_) ?_
  · obtain ⟨q, -, hq⟩ := Option.map_eq_some_iff.mp h
    cases hq
    exact Or.inl rfl
  · unfold X12_hire
    show sOk 12 cX12_hire 3 10 false 0 [(0, vr 13 0), (1, vi a1), (2, vi a2)] [] μ _
    refine sBk (lo' := [(0, vr 13 0), (1, vi a1), (2, vi a2)]) (st' := [vi a2, vi a1]) (μ' := wI (wI μ 13 0 1 0) 13 0 0 0) (pc' := 12) [(.aload_n 0, 0, 0, 0, 0), (.iconst 0, 0, 0, 0, 0), (.putfield 72, 12, 1, 0, 0), (.aload_n 0, 0, 0, 0, 0), (.iconst 0, 0, 0, 0, 0), (.putfield 75, 12, 0, 0, 0), (.iload_n 1, 0, 0, 0, 0), (.iload_n 2, 0, 0, 0, 0)] (by decide +kernel) rfl rfl ?_
    refine sCsI oI rfl (avs := [vi a1, vi a2]) (rest := []) (tX12_isHire a1 a2 (wI (wI μ 13 0 1 0) 13 0 0 0)) (by decide) (by decide +kernel) lk_12_450 ys_X12_isHire rfl rfl (Nat.le_of_ble_eq_true rfl) (fun x1 μ2 => ?_)
    refine sIf_ne oI (off := 9) (tgt := 24) (by decide +kernel) (by decide) (fun _ => ?_) (fun _ => ?_)
    · refine sBk (lo' := [(0, vr 13 0), (1, vi a1), (2, vi a2)]) (st' := [vi a2, vi a1, vr 13 0]) (μ' := μ2) (pc' := 27) [(.aload_n 0, 0, 0, 0, 0), (.iload_n 1, 0, 0, 0, 0), (.iload_n 2, 0, 0, 0, 0)] (by decide +kernel) rfl rfl ?_
      refine sCvI oI rfl (ci := 12) (q := (13, 0)) (avs := [vi a1, vi a2]) (rest := []) (tX12_isHired a1 a2 μ2) (by decide) (by decide +kernel) lk_12_453 yv_X12_isHired rfl (by decide) rfl rfl rfl (Nat.le_of_ble_eq_true rfl) (fun x3 μ4 => ?_)
      refine sIf_eq oI (off := 10) (tgt := 40) (by decide +kernel) (by decide) (fun _ => ?_) (fun _ => ?_)
      · refine sBk (lo' := [(0, vr 13 0), (1, vi a1), (2, vi a2)]) (st' := [vi 8, vr 13 0]) (μ' := μ4) (pc' := 43) [(.aload_n 0, 0, 0, 0, 0), (.bipush 8, 0, 0, 8, 0)] (by decide +kernel) rfl rfl ?_
        refine sCvI oI rfl (ci := 12) (q := (13, 0)) (avs := [vi 8]) (rest := []) (tX12_refuse 8 μ4) (by decide) (by decide +kernel) lk_12_325 yv_X12_refuse rfl (by decide) rfl rfl rfl (Nat.le_of_ble_eq_true rfl) (fun x5 μ6 => ?_)
        exact sRi (by decide +kernel) (fun h => by cases h)
      · refine sBk (lo' := [(0, vr 13 0), (1, vi a1), (2, vi a2)]) (st' := [vi (rI μ4 13 0 33)]) (μ' := μ4) (pc' := 37) [(.aload_n 0, 0, 0, 0, 0), (.getfield 437, 12, 33, 0, 0)] (by decide +kernel) rfl rfl ?_
        refine sGt (off := 9) (tgt := 46) (by decide +kernel) (by decide) ?_
        exact sRi (by decide +kernel) (fun h => by cases h)
    · refine sBk (lo' := [(0, vr 13 0), (1, vi a1), (2, vi a2)]) (st' := [vi 5, vr 13 0]) (μ' := μ2) (pc' := 20) [(.aload_n 0, 0, 0, 0, 0), (.iconst 5, 0, 0, 5, 0)] (by decide +kernel) rfl rfl ?_
      refine sCvI oI rfl (ci := 12) (q := (13, 0)) (avs := [vi 5]) (rest := []) (tX12_refuse 5 μ2) (by decide) (by decide +kernel) lk_12_325 yv_X12_refuse rfl (by decide) rfl rfl rfl (Nat.le_of_ble_eq_true rfl) (fun x7 μ8 => ?_)
      exact sRi (by decide +kernel) (fun h => by cases h)
/-! ClockRiverModel.hireAt -/
def X12_hireAt_J31 (μ : sM) : Option (Int32 × sM) :=
  bI (X12_refuse 5 μ) fun x1 μ2 =>
    some (x1, μ2)
theorem X12_hireAt_J31_ok (μ : sM) : sOk 12 cX12_hireAt 4 10 false 31 [(0, vr 13 0)] [] μ (oI (X12_hireAt_J31 μ)) := by
  unfold X12_hireAt_J31
  refine sBk (lo' := [(0, vr 13 0)]) (st' := [vi 5, vr 13 0]) (μ' := μ) (pc' := 33) [(.aload_n 0, 0, 0, 0, 0), (.iconst 5, 0, 0, 5, 0)] (by decide +kernel) rfl rfl ?_
  refine sCvI oI rfl (ci := 12) (q := (13, 0)) (avs := [vi 5]) (rest := []) (tX12_refuse 5 μ) (by decide) (by decide +kernel) lk_12_325 yv_X12_refuse rfl (by decide) rfl rfl rfl (Nat.le_of_ble_eq_true rfl) (fun x1 μ2 => ?_)
  exact sRi (by decide +kernel) (fun h => by cases h)
def X12_hireAt (a1 : Int32) (a2 : Int32) (a3 : Int32) (μ : sM) : Option (Int32 × sM) :=
  bI (X12_isHire a1 a2 (wI (wI μ 13 0 1 0) 13 0 0 0)) fun x1 μ2 =>
    if x1 = 0 then
      X12_hireAt_J31 μ2
    else
      bI (X12_isIn (Int32.toInt64 a3) 0 (Int32.toInt64 (a1 - 1)) μ2) fun x3 μ4 =>
        if x3 = 0 then
          X12_hireAt_J31 μ4
        else
          bI (X12_isHired a1 a2 μ4) fun x5 μ6 =>
            if x5 = 0 then
              bI (X12_refuse 8 μ6) fun x7 μ8 =>
                some (x7, μ8)
            else
              if inb a3 4 = true then
                some ((rI μ6 69 0 (ix a3)), μ6)
              else none
theorem tX12_hireAt (a1 : Int32) (a2 : Int32) (a3 : Int32) (μ : sM) : sMt yX12_hireAt cX12_hireAt 4 (some .int) 10 [vr 13 0, vi a1, vi a2, vi a3] μ (oI (X12_hireAt a1 a2 a3 μ)) := by
  refine sMt_of (own := 12) (bl := false) (by decide +kernel) rfl (Nat.le_of_ble_eq_true rfl) (fun r ρ h => ?_) ?_
  · obtain ⟨q, -, hq⟩ := Option.map_eq_some_iff.mp h
    cases hq
    exact Or.inl rfl
  · unfold X12_hireAt
    show sOk 12 cX12_hireAt 4 10 false 0 [(0, vr 13 0), (1, vi a1), (2, vi a2), (3, vi a3)] [] μ _
    refine sBk (lo' := [(0, vr 13 0), (1, vi a1), (2, vi a2), (3, vi a3)]) (st' := [vi a2, vi a1]) (μ' := wI (wI μ 13 0 1 0) 13 0 0 0) (pc' := 12) [(.aload_n 0, 0, 0, 0, 0), (.iconst 0, 0, 0, 0, 0), (.putfield 72, 12, 1, 0, 0), (.aload_n 0, 0, 0, 0, 0), (.iconst 0, 0, 0, 0, 0), (.putfield 75, 12, 0, 0, 0), (.iload_n 1, 0, 0, 0, 0), (.iload_n 2, 0, 0, 0, 0)] (by decide +kernel) rfl rfl ?_
    refine sCsI oI rfl (avs := [vi a1, vi a2]) (rest := []) (tX12_isHire a1 a2 (wI (wI μ 13 0 1 0) 13 0 0 0)) (by decide) (by decide +kernel) lk_12_450 ys_X12_isHire rfl rfl (Nat.le_of_ble_eq_true rfl) (fun x1 μ2 => ?_)
    refine sIf_eq oI (off := 16) (tgt := 31) (by decide +kernel) (by decide) (fun _ => ?_) (fun _ => ?_)
    · refine sWk (lo' := [(0, vr 13 0)]) [0] rfl ?_
      exact X12_hireAt_J31_ok μ2
    · refine sBk (lo' := [(0, vr 13 0), (1, vi a1), (2, vi a2), (3, vi a3)]) (st' := [vl (Int32.toInt64 (a1 - 1)), vl 0, vl (Int32.toInt64 a3)]) (μ' := μ2) (pc' := 25) [(.iload_n 3, 0, 0, 0, 0), (.i2l, 0, 0, 0, 0), (.lconst 0, 0, 0, 0, 0), (.iload_n 1, 0, 0, 0, 0), (.iconst 1, 0, 0, 1, 0), (.isub, 0, 0, 0, 0), (.i2l, 0, 0, 0, 0)] (by decide +kernel) rfl rfl ?_
      refine sCsI oI rfl (avs := [vl (Int32.toInt64 a3), vl 0, vl (Int32.toInt64 (a1 - 1))]) (rest := []) (tX12_isIn (Int32.toInt64 a3) 0 (Int32.toInt64 (a1 - 1)) μ2) (by decide) (by decide +kernel) lk_12_107 ys_X12_isIn rfl rfl (Nat.le_of_ble_eq_true rfl) (fun x3 μ4 => ?_)
      refine sIf_ne oI (off := 9) (tgt := 37) (by decide +kernel) (by decide) (fun _ => ?_) (fun _ => ?_)
      · refine sBk (lo' := [(0, vr 13 0), (1, vi a1), (2, vi a2), (3, vi a3)]) (st' := [vi a2, vi a1, vr 13 0]) (μ' := μ4) (pc' := 40) [(.aload_n 0, 0, 0, 0, 0), (.iload_n 1, 0, 0, 0, 0), (.iload_n 2, 0, 0, 0, 0)] (by decide +kernel) rfl rfl ?_
        refine sCvI oI rfl (ci := 12) (q := (13, 0)) (avs := [vi a1, vi a2]) (rest := []) (tX12_isHired a1 a2 μ4) (by decide) (by decide +kernel) lk_12_453 yv_X12_isHired rfl (by decide) rfl rfl rfl (Nat.le_of_ble_eq_true rfl) (fun x5 μ6 => ?_)
        refine sIf_eq oI (off := 12) (tgt := 55) (by decide +kernel) (by decide) (fun _ => ?_) (fun _ => ?_)
        · refine sBk (lo' := [(0, vr 13 0), (1, vi a1), (2, vi a2), (3, vi a3)]) (st' := [vi 8, vr 13 0]) (μ' := μ6) (pc' := 58) [(.aload_n 0, 0, 0, 0, 0), (.bipush 8, 0, 0, 8, 0)] (by decide +kernel) rfl rfl ?_
          refine sCvI oI rfl (ci := 12) (q := (13, 0)) (avs := [vi 8]) (rest := []) (tX12_refuse 8 μ6) (by decide) (by decide +kernel) lk_12_325 yv_X12_refuse rfl (by decide) rfl rfl rfl (Nat.le_of_ble_eq_true rfl) (fun x7 μ8 => ?_)
          exact sRi (by decide +kernel) (fun h => by cases h)
        · refine sBk (lo' := [(0, vr 13 0), (1, vi a1), (2, vi a2), (3, vi a3)]) (st' := [vi a3, vr 69 0]) (μ' := μ6) (pc' := 51) [(.aload_n 0, 0, 0, 0, 0), (.getfield 59, 12, 32, 0, 0), (.iload_n 3, 0, 0, 0, 0)] (by decide +kernel) rfl rfl ?_
          refine sS_ial oI rfl (n := 4) (j := (ix a3)) (by decide +kernel) rfl rfl rfl (fun _ => ?_)
          refine sGt (off := 9) (tgt := 61) (by decide +kernel) (by decide) ?_
          exact sRi (by decide +kernel) (fun h => by cases h)
      · refine sWk (lo' := [(0, vr 13 0)]) [0] rfl ?_
        exact X12_hireAt_J31_ok μ4
