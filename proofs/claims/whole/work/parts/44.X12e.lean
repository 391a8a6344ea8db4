theorem lk_12_339 : Cond.methodLink (kRn 12) 339 yX12_isReachAt ∈ sT := sT_in (n := 1902) (by decide +kernel) rfl
theorem lk_12_344 : Cond.methodLink (kRn 12) 344 yX12_passOf ∈ sT := sT_in (n := 1907) (by decide +kernel) rfl
theorem lk_12_347 : Cond.methodLink (kRn 12) 347 yX12_millsAt ∈ sT := sT_in (n := 1912) (by decide +kernel) rfl
theorem lk_12_350 : Cond.methodLink (kRn 12) 350 yX12_isMillAt ∈ sT := sT_in (n := 1920) (by decide +kernel) rfl
theorem lk_12_355 : Cond.methodLink (kRn 12) 355 yX12_isWinderAt ∈ sT := sT_in (n := 1929) (by decide +kernel) rfl
theorem lk_12_358 : Cond.methodLink (kRn 12) 358 yX12_isTray ∈ sT := sT_in (n := 1938) (by decide +kernel) rfl
theorem lk_12_361 : Cond.methodLink (kRn 12) 361 yX12_write ∈ sT := sT_in (n := 1942) (by decide +kernel) rfl
theorem lk_12_365 : Cond.methodLink (kRn 12) 365 yX12_flowsDown ∈ sT := sT_in (n := 1952) (by decide +kernel) rfl
theorem lk_12_368 : Cond.methodLink (kRn 12) 368 yX12_flowsUp ∈ sT := sT_in (n := 1956) (by decide +kernel) rfl
theorem lk_12_371 : Cond.methodLink (kRn 12) 371 yX12_rainsAndFloods ∈ sT := sT_in (n := 1960) (by decide +kernel) rfl
theorem lk_12_374 : Cond.methodLink (kRn 12) 374 yX12_slackNow ∈ sT := sT_in (n := 1964) (by decide +kernel) rfl
theorem lk_12_377 : Cond.methodLink (kRn 12) 377 yX12_slackened ∈ sT := sT_in (n := 1968) (by decide +kernel) rfl
theorem lk_12_382 : Cond.methodLink (kRn 12) 382 yX12_goesHour ∈ sT := sT_in (n := 1948) (by decide +kernel) rfl
theorem ys_X12_slackened : yS yX12_slackened cX12_slackened 2 (some .int) 2 := ⟨⟨sT_in (n := 1970) (by decide +kernel) rfl, sT_in (n := 149) (by decide +kernel) rfl, by decide +kernel, by decide⟩, sT_in (n := 1969) (by decide +kernel) rfl⟩
theorem yv_X12_flowsDown : yV yX12_flowsDown cX12_flowsDown 3 none 0 := ⟨⟨sT_in (n := 1955) (by decide +kernel) rfl, sT_in (n := 149) (by decide +kernel) rfl, by decide +kernel, by decide⟩, sT_in (n := 1954) (by decide +kernel) rfl, sT_in (n := 106) (by decide +kernel) rfl⟩
theorem yv_X12_flowsUp : yV yX12_flowsUp cX12_flowsUp 3 none 0 := ⟨⟨sT_in (n := 1959) (by decide +kernel) rfl, sT_in (n := 149) (by decide +kernel) rfl, by decide +kernel, by decide⟩, sT_in (n := 1958) (by decide +kernel) rfl, sT_in (n := 107) (by decide +kernel) rfl⟩
theorem yv_X12_goesHour : yV yX12_goesHour cX12_goesHour 3 (some .int) 0 := ⟨⟨sT_in (n := 1951) (by decide +kernel) rfl, sT_in (n := 149) (by decide +kernel) rfl, by decide +kernel, by decide⟩, sT_in (n := 1950) (by decide +kernel) rfl, sT_in (n := 105) (by decide +kernel) rfl⟩
theorem yv_X12_isMillAt : yV yX12_isMillAt cX12_isMillAt 2 (some .boolean) 1 := ⟨⟨sT_in (n := 1923) (by decide +kernel) rfl, sT_in (n := 149) (by decide +kernel) rfl, by decide +kernel, by decide⟩, sT_in (n := 1922) (by decide +kernel) rfl, sT_in (n := 102) (by decide +kernel) rfl⟩
theorem yv_X12_isReachAt : yV yX12_isReachAt cX12_isReachAt 2 (some .boolean) 1 := ⟨⟨sT_in (n := 1905) (by decide +kernel) rfl, sT_in (n := 149) (by decide +kernel) rfl, by decide +kernel, by decide⟩, sT_in (n := 1904) (by decide +kernel) rfl, sT_in (n := 99) (by decide +kernel) rfl⟩
theorem yv_X12_isTray : yV yX12_isTray cX12_isTray 2 (some .boolean) 1 := ⟨⟨sT_in (n := 1941) (by decide +kernel) rfl, sT_in (n := 149) (by decide +kernel) rfl, by decide +kernel, by decide⟩, sT_in (n := 1940) (by decide +kernel) rfl, sT_in (n := 104) (by decide +kernel) rfl⟩
theorem yv_X12_isWinderAt : yV yX12_isWinderAt cX12_isWinderAt 2 (some .boolean) 1 := ⟨⟨sT_in (n := 1932) (by decide +kernel) rfl, sT_in (n := 149) (by decide +kernel) rfl, by decide +kernel, by decide⟩, sT_in (n := 1931) (by decide +kernel) rfl, sT_in (n := 103) (by decide +kernel) rfl⟩
theorem yv_X12_millsAt : yV yX12_millsAt cX12_millsAt 4 (some .int) 1 := ⟨⟨sT_in (n := 1915) (by decide +kernel) rfl, sT_in (n := 149) (by decide +kernel) rfl, by decide +kernel, by decide⟩, sT_in (n := 1914) (by decide +kernel) rfl, sT_in (n := 101) (by decide +kernel) rfl⟩
theorem yv_X12_passOf : yV yX12_passOf cX12_passOf 2 (some .int) 1 := ⟨⟨sT_in (n := 1910) (by decide +kernel) rfl, sT_in (n := 149) (by decide +kernel) rfl, by decide +kernel, by decide⟩, sT_in (n := 1909) (by decide +kernel) rfl, sT_in (n := 100) (by decide +kernel) rfl⟩
theorem yv_X12_rainsAndFloods : yV yX12_rainsAndFloods cX12_rainsAndFloods 3 none 0 := ⟨⟨sT_in (n := 1963) (by decide +kernel) rfl, sT_in (n := 149) (by decide +kernel) rfl, by decide +kernel, by decide⟩, sT_in (n := 1962) (by decide +kernel) rfl, sT_in (n := 108) (by decide +kernel) rfl⟩
theorem yv_X12_slackNow : yV yX12_slackNow cX12_slackNow 2 (some .int) 1 := ⟨⟨sT_in (n := 1967) (by decide +kernel) rfl, sT_in (n := 149) (by decide +kernel) rfl, by decide +kernel, by decide⟩, sT_in (n := 1966) (by decide +kernel) rfl, sT_in (n := 109) (by decide +kernel) rfl⟩
theorem yv_X12_write : yV yX12_write cX12_write 5 (some .boolean) 3 := ⟨⟨sT_in (n := 1626) (by decide +kernel) rfl, sT_in (n := 149) (by decide +kernel) rfl, by decide +kernel, by decide⟩, sT_in (n := 1624) (by decide +kernel) rfl, sT_in (n := 1625) (by decide +kernel) rfl⟩
/-! ClockRiverModel.reach -/
def X12_reach (a1 : Int32) (a2 : Int32) (μ : sM) : Option (Int32 × sM) :=
  bI (X12_isReachAt a1 (wI (wI μ 13 0 1 0) 13 0 0 0)) fun x1 μ2 =>
    if x1 = 0 then
      bI (X12_refuse 2 μ2) fun x11 μ12 =>
        some (x11, μ12)
    else
      bI (X12_isIn (Int32.toInt64 a2) 0 4 μ2) fun x3 μ4 =>
        if x3 = 0 then
          bI (X12_refuse 5 μ4) fun x9 μ10 =>
            some (x9, μ10)
        else
          if 3 ≤ a2 then
            if a2 = 3 then
              bI (X12_passOf a1 μ4) fun x7 μ8 =>
                some (x7, μ8)
            else
              bI (X12_millsAt a1 μ4) fun x5 μ6 =>
                some (x5, μ6)
          else
            if inb ((16 + (6 * a2)) + a1) 1740 = true then
              some ((rI μ4 61 0 (ix ((16 + (6 * a2)) + a1))), μ4)
            else none
theorem tX12_reach (a1 : Int32) (a2 : Int32) (μ : sM) : sMt yX12_reach cX12_reach 3 (some .int) 3 [vr 13 0, vi a1, vi a2] μ (oI (X12_reach a1 a2 μ)) := by
  refine sMt_of (own := 12) (bl := false) (by decide +kernel) rfl (Nat.le_of_ble_eq_true rfl) (fun r ρ h => ?_) ?_
  · obtain ⟨q, -, hq⟩ := Option.map_eq_some_iff.mp h
    cases hq
    exact Or.inl rfl
  · unfold X12_reach
    show sOk 12 cX12_reach 3 3 false 0 [(0, vr 13 0), (1, vi a1), (2, vi a2)] [] μ _
    refine sBk (lo' := [(0, vr 13 0), (1, vi a1), (2, vi a2)]) (st' := [vi a1, vr 13 0]) (μ' := wI (wI μ 13 0 1 0) 13 0 0 0) (pc' := 12) [(.aload_n 0, 0, 0, 0, 0), (.iconst 0, 0, 0, 0, 0), (.putfield 72, 12, 1, 0, 0), (.aload_n 0, 0, 0, 0, 0), (.iconst 0, 0, 0, 0, 0), (.putfield 75, 12, 0, 0, 0), (.aload_n 0, 0, 0, 0, 0), (.iload_n 1, 0, 0, 0, 0)] (by decide +kernel) rfl rfl ?_
    refine sCvI oI rfl (ci := 12) (q := (13, 0)) (avs := [vi a1]) (rest := []) (tX12_isReachAt a1 (wI (wI μ 13 0 1 0) 13 0 0 0)) (by decide) (by decide +kernel) lk_12_339 yv_X12_isReachAt rfl (by decide) rfl rfl rfl (Nat.le_of_ble_eq_true rfl) (fun x1 μ2 => ?_)
    refine sIf_ne oI (off := 9) (tgt := 24) (by decide +kernel) (by decide) (fun _ => ?_) (fun _ => ?_)
    · refine sBk (lo' := [(0, vr 13 0), (1, vi a1), (2, vi a2)]) (st' := [vl 4, vl 0, vl (Int32.toInt64 a2)]) (μ' := μ2) (pc' := 30) [(.iload_n 2, 0, 0, 0, 0), (.i2l, 0, 0, 0, 0), (.lconst 0, 0, 0, 0, 0), (.ldc2_w 342, 0, 0, 0, 4)] (by decide +kernel) rfl rfl ?_
      refine sCsI oI rfl (avs := [vl (Int32.toInt64 a2), vl 0, vl 4]) (rest := []) (tX12_isIn (Int32.toInt64 a2) 0 4 μ2) (by decide) (by decide +kernel) lk_12_107 ys_X12_isIn rfl rfl (Nat.le_of_ble_eq_true rfl) (fun x3 μ4 => ?_)
      refine sIf_ne oI (off := 9) (tgt := 42) (by decide +kernel) (by decide) (fun _ => ?_) (fun _ => ?_)
      · refine sBk (lo' := [(0, vr 13 0), (1, vi a1), (2, vi a2)]) (st' := [vi 3, vi a2]) (μ' := μ4) (pc' := 44) [(.iload_n 2, 0, 0, 0, 0), (.iconst 3, 0, 0, 3, 0)] (by decide +kernel) rfl rfl ?_
        refine sIc_ge oI (off := 20) (tgt := 64) (by decide +kernel) (by decide) (fun _ => ?_) (fun _ => ?_)
        · refine sBk (lo' := [(0, vr 13 0), (1, vi a1), (2, vi a2)]) (st' := [vi 3, vi a2]) (μ' := μ4) (pc' := 66) [(.iload_n 2, 0, 0, 0, 0), (.iconst 3, 0, 0, 3, 0)] (by decide +kernel) rfl rfl ?_
          refine sIc_ne oI (off := 11) (tgt := 77) (by decide +kernel) (by decide) (fun _ => ?_) (fun _ => ?_)
          · refine sBk (lo' := [(0, vr 13 0), (1, vi a1), (2, vi a2)]) (st' := [vi a1, vr 13 0]) (μ' := μ4) (pc' := 79) [(.aload_n 0, 0, 0, 0, 0), (.iload_n 1, 0, 0, 0, 0)] (by decide +kernel) rfl rfl ?_
            refine sCvI oI rfl (ci := 12) (q := (13, 0)) (avs := [vi a1]) (rest := []) (tX12_millsAt a1 μ4) (by decide) (by decide +kernel) lk_12_347 yv_X12_millsAt rfl (by decide) rfl rfl rfl (Nat.le_of_ble_eq_true rfl) (fun x5 μ6 => ?_)
            exact sRi (by decide +kernel) (fun h => by cases h)
          · refine sBk (lo' := [(0, vr 13 0), (1, vi a1), (2, vi a2)]) (st' := [vi a1, vr 13 0]) (μ' := μ4) (pc' := 71) [(.aload_n 0, 0, 0, 0, 0), (.iload_n 1, 0, 0, 0, 0)] (by decide +kernel) rfl rfl ?_
            refine sCvI oI rfl (ci := 12) (q := (13, 0)) (avs := [vi a1]) (rest := []) (tX12_passOf a1 μ4) (by decide) (by decide +kernel) lk_12_344 yv_X12_passOf rfl (by decide) rfl rfl rfl (Nat.le_of_ble_eq_true rfl) (fun x7 μ8 => ?_)
            refine sGt (off := 8) (tgt := 82) (by decide +kernel) (by decide) ?_
            exact sRi (by decide +kernel) (fun h => by cases h)
        · refine sBk (lo' := [(0, vr 13 0), (1, vi a1), (2, vi a2)]) (st' := [vi ((16 + (6 * a2)) + a1), vr 61 0]) (μ' := μ4) (pc' := 60) [(.aload_n 0, 0, 0, 0, 0), (.getfield 35, 12, 20, 0, 0), (.bipush 16, 0, 0, 16, 0), (.bipush 6, 0, 0, 6, 0), (.iload_n 2, 0, 0, 0, 0), (.imul, 0, 0, 0, 0), (.iadd, 0, 0, 0, 0), (.iload_n 1, 0, 0, 0, 0), (.iadd, 0, 0, 0, 0)] (by decide +kernel) rfl rfl ?_
          refine sS_ial oI rfl (n := 1740) (j := (ix ((16 + (6 * a2)) + a1))) (by decide +kernel) rfl rfl rfl (fun _ => ?_)
          refine sGt (off := 21) (tgt := 82) (by decide +kernel) (by decide) ?_
          exact sRi (by decide +kernel) (fun h => by cases h)
      · refine sBk (lo' := [(0, vr 13 0), (1, vi a1), (2, vi a2)]) (st' := [vi 5, vr 13 0]) (μ' := μ4) (pc' := 38) [(.aload_n 0, 0, 0, 0, 0), (.iconst 5, 0, 0, 5, 0)] (by decide +kernel) rfl rfl ?_
        refine sCvI oI rfl (ci := 12) (q := (13, 0)) (avs := [vi 5]) (rest := []) (tX12_refuse 5 μ4) (by decide) (by decide +kernel) lk_12_325 yv_X12_refuse rfl (by decide) rfl rfl rfl (Nat.le_of_ble_eq_true rfl) (fun x9 μ10 => ?_)
        exact sRi (by decide +kernel) (fun h => by cases h)
    · refine sBk (lo' := [(0, vr 13 0), (1, vi a1), (2, vi a2)]) (st' := [vi 2, vr 13 0]) (μ' := μ2) (pc' := 20) [(.aload_n 0, 0, 0, 0, 0), (.iconst 2, 0, 0, 2, 0)] (by decide +kernel) rfl rfl ?_
      refine sCvI oI rfl (ci := 12) (q := (13, 0)) (avs := [vi 2]) (rest := []) (tX12_refuse 2 μ2) (by decide) (by decide +kernel) lk_12_325 yv_X12_refuse rfl (by decide) rfl rfl rfl (Nat.le_of_ble_eq_true rfl) (fun x11 μ12 => ?_)
      exact sRi (by decide +kernel) (fun h => by cases h)
/-! ClockRiverModel.isMillAt -/
def X12_isMillAt (a1 : Int32) (μ : sM) : Option (Int32 × sM) :=
  bI (X12_isIn (Int32.toInt64 a1) 0 (Int32.toInt64 ((rI μ 61 0 1) - 1)) μ) fun x1 μ2 =>
    if x1 = 0 ∨ x1 = 1 then some (x1, μ2) else none
theorem tX12_isMillAt (a1 : Int32) (μ : sM) : sMt yX12_isMillAt cX12_isMillAt 2 (some .boolean) 2 [vr 13 0, vi a1] μ (oI (X12_isMillAt a1 μ)) := by
  refine sMt_of (own := 12) (bl := true) (by decide +kernel) rfl (Nat.le_of_ble_eq_true rfl) (fun r ρ h => ?_) ?_
  · obtain ⟨q, -, hq⟩ := Option.map_eq_some_iff.mp h
    cases hq
    exact Or.inr ⟨rfl, rfl⟩
  · unfold X12_isMillAt
    show sOk 12 cX12_isMillAt 2 2 true 0 [(0, vr 13 0), (1, vi a1)] [] μ _
    refine sBk (lo' := [(0, vr 13 0), (1, vi a1)]) (st' := [vi 1, vr 61 0, vl 0, vl (Int32.toInt64 a1)]) (μ' := μ) (pc' := 8) [(.iload_n 1, 0, 0, 0, 0), (.i2l, 0, 0, 0, 0), (.lconst 0, 0, 0, 0, 0), (.aload_n 0, 0, 0, 0, 0), (.getfield 35, 12, 20, 0, 0), (.iconst 1, 0, 0, 1, 0)] (by decide +kernel) rfl rfl ?_
    refine sC_ial (n := 1740) (j := 1) (by decide +kernel) (by decide +kernel) rfl rfl (by decide +kernel) ?_
    refine sBk (lo' := [(0, vr 13 0), (1, vi a1)]) (st' := [vl (Int32.toInt64 ((rI μ 61 0 1) - 1)), vl 0, vl (Int32.toInt64 a1)]) (μ' := μ) (pc' := 12) [(.iconst 1, 0, 0, 1, 0), (.isub, 0, 0, 0, 0), (.i2l, 0, 0, 0, 0)] (by decide +kernel) rfl rfl ?_
    refine sCsI oI rfl (avs := [vl (Int32.toInt64 a1), vl 0, vl (Int32.toInt64 ((rI μ 61 0 1) - 1))]) (rest := []) (tX12_isIn (Int32.toInt64 a1) 0 (Int32.toInt64 ((rI μ 61 0 1) - 1)) μ) (by decide) (by decide +kernel) lk_12_107 ys_X12_isIn rfl rfl (Nat.le_of_ble_eq_true rfl) (fun x1 μ2 => ?_)
    exact sCk oI rfl (fun h => sRi (by decide +kernel) (fun _ => h))
/-! ClockRiverModel.mill -/
def X12_mill (a1 : Int32) (a2 : Int32) (μ : sM) : Option (Int32 × sM) :=
  bI (X12_isMillAt a1 (wI (wI μ 13 0 1 0) 13 0 0 0)) fun x1 μ2 =>
    if x1 = 0 then
      bI (X12_refuse 2 μ2) fun x7 μ8 =>
        some (x7, μ8)
    else
      bI (X12_isIn (Int32.toInt64 a2) 0 2 μ2) fun x3 μ4 =>
        if x3 = 0 then
          bI (X12_refuse 5 μ4) fun x5 μ6 =>
            some (x5, μ6)
        else
          if inb ((34 + (6 * a2)) + a1) 1740 = true then
            some ((rI μ4 61 0 (ix ((34 + (6 * a2)) + a1))), μ4)
          else none
theorem tX12_mill (a1 : Int32) (a2 : Int32) (μ : sM) : sMt yX12_mill cX12_mill 3 (some .int) 3 [vr 13 0, vi a1, vi a2] μ (oI (X12_mill a1 a2 μ)) := by
  refine sMt_of (own := 12) (bl := false) (by decide +kernel) rfl (Nat.le_of_ble_eq_true rfl) (fun r ρ h => ?_) ?_
  · obtain ⟨q, -, hq⟩ := Option.map_eq_some_iff.mp h
    cases hq
    exact Or.inl rfl
  · unfold X12_mill
    show sOk 12 cX12_mill 3 3 false 0 [(0, vr 13 0), (1, vi a1), (2, vi a2)] [] μ _
    refine sBk (lo' := [(0, vr 13 0), (1, vi a1), (2, vi a2)]) (st' := [vi a1, vr 13 0]) (μ' := wI (wI μ 13 0 1 0) 13 0 0 0) (pc' := 12) [(.aload_n 0, 0, 0, 0, 0), (.iconst 0, 0, 0, 0, 0), (.putfield 72, 12, 1, 0, 0), (.aload_n 0, 0, 0, 0, 0), (.iconst 0, 0, 0, 0, 0), (.putfield 75, 12, 0, 0, 0), (.aload_n 0, 0, 0, 0, 0), (.iload_n 1, 0, 0, 0, 0)] (by decide +kernel) rfl rfl ?_
    refine sCvI oI rfl (ci := 12) (q := (13, 0)) (avs := [vi a1]) (rest := []) (tX12_isMillAt a1 (wI (wI μ 13 0 1 0) 13 0 0 0)) (by decide) (by decide +kernel) lk_12_350 yv_X12_isMillAt rfl (by decide) rfl rfl rfl (Nat.le_of_ble_eq_true rfl) (fun x1 μ2 => ?_)
    refine sIf_ne oI (off := 9) (tgt := 24) (by decide +kernel) (by decide) (fun _ => ?_) (fun _ => ?_)
    · refine sBk (lo' := [(0, vr 13 0), (1, vi a1), (2, vi a2)]) (st' := [vl 2, vl 0, vl (Int32.toInt64 a2)]) (μ' := μ2) (pc' := 30) [(.iload_n 2, 0, 0, 0, 0), (.i2l, 0, 0, 0, 0), (.lconst 0, 0, 0, 0, 0), (.ldc2_w 353, 0, 0, 0, 2)] (by decide +kernel) rfl rfl ?_
      refine sCsI oI rfl (avs := [vl (Int32.toInt64 a2), vl 0, vl 2]) (rest := []) (tX12_isIn (Int32.toInt64 a2) 0 2 μ2) (by decide) (by decide +kernel) lk_12_107 ys_X12_isIn rfl rfl (Nat.le_of_ble_eq_true rfl) (fun x3 μ4 => ?_)
      refine sIf_eq oI (off := 20) (tgt := 53) (by decide +kernel) (by decide) (fun _ => ?_) (fun _ => ?_)
      · refine sBk (lo' := [(0, vr 13 0), (1, vi a1), (2, vi a2)]) (st' := [vi 5, vr 13 0]) (μ' := μ4) (pc' := 55) [(.aload_n 0, 0, 0, 0, 0), (.iconst 5, 0, 0, 5, 0)] (by decide +kernel) rfl rfl ?_
        refine sCvI oI rfl (ci := 12) (q := (13, 0)) (avs := [vi 5]) (rest := []) (tX12_refuse 5 μ4) (by decide) (by decide +kernel) lk_12_325 yv_X12_refuse rfl (by decide) rfl rfl rfl (Nat.le_of_ble_eq_true rfl) (fun x5 μ6 => ?_)
        exact sRi (by decide +kernel) (fun h => by cases h)
      · refine sBk (lo' := [(0, vr 13 0), (1, vi a1), (2, vi a2)]) (st' := [vi ((34 + (6 * a2)) + a1), vr 61 0]) (μ' := μ4) (pc' := 49) [(.aload_n 0, 0, 0, 0, 0), (.getfield 35, 12, 20, 0, 0), (.bipush 34, 0, 0, 34, 0), (.bipush 6, 0, 0, 6, 0), (.iload_n 2, 0, 0, 0, 0), (.imul, 0, 0, 0, 0), (.iadd, 0, 0, 0, 0), (.iload_n 1, 0, 0, 0, 0), (.iadd, 0, 0, 0, 0)] (by decide +kernel) rfl rfl ?_
        refine sS_ial oI rfl (n := 1740) (j := (ix ((34 + (6 * a2)) + a1))) (by decide +kernel) rfl rfl rfl (fun _ => ?_)
        refine sGt (off := 8) (tgt := 58) (by decide +kernel) (by decide) ?_
        exact sRi (by decide +kernel) (fun h => by cases h)
    · refine sBk (lo' := [(0, vr 13 0), (1, vi a1), (2, vi a2)]) (st' := [vi 2, vr 13 0]) (μ' := μ2) (pc' := 20) [(.aload_n 0, 0, 0, 0, 0), (.iconst 2, 0, 0, 2, 0)] (by decide +kernel) rfl rfl ?_
      refine sCvI oI rfl (ci := 12) (q := (13, 0)) (avs := [vi 2]) (rest := []) (tX12_refuse 2 μ2) (by decide) (by decide +kernel) lk_12_325 yv_X12_refuse rfl (by decide) rfl rfl rfl (Nat.le_of_ble_eq_true rfl) (fun x7 μ8 => ?_)
      exact sRi (by decide +kernel) (fun h => by cases h)
/-! ClockRiverModel.isWinderAt -/
def X12_isWinderAt (a1 : Int32) (μ : sM) : Option (Int32 × sM) :=
  bI (X12_isIn (Int32.toInt64 a1) 0 (Int32.toInt64 ((rI μ 61 0 2) - 1)) μ) fun x1 μ2 =>
    if x1 = 0 ∨ x1 = 1 then some (x1, μ2) else none
theorem tX12_isWinderAt (a1 : Int32) (μ : sM) : sMt yX12_isWinderAt cX12_isWinderAt 2 (some .boolean) 2 [vr 13 0, vi a1] μ (oI (X12_isWinderAt a1 μ)) := by
  refine sMt_of (own := 12) (bl := true) (by decide +kernel) rfl (Nat.le_of_ble_eq_true rfl) (fun r ρ h => ?_) ?_
  · obtain ⟨q, -, hq⟩ := Option.map_eq_some_iff.mp h
    cases hq
    exact Or.inr ⟨rfl, rfl⟩
  · unfold X12_isWinderAt
    show sOk 12 cX12_isWinderAt 2 2 true 0 [(0, vr 13 0), (1, vi a1)] [] μ _
    refine sBk (lo' := [(0, vr 13 0), (1, vi a1)]) (st' := [vi 2, vr 61 0, vl 0, vl (Int32.toInt64 a1)]) (μ' := μ) (pc' := 8) [(.iload_n 1, 0, 0, 0, 0), (.i2l, 0, 0, 0, 0), (.lconst 0, 0, 0, 0, 0), (.aload_n 0, 0, 0, 0, 0), (.getfield 35, 12, 20, 0, 0), (.iconst 2, 0, 0, 2, 0)] (by decide +kernel) rfl rfl ?_
    refine sC_ial (n := 1740) (j := 2) (by decide +kernel) (by decide +kernel) rfl rfl (by decide +kernel) ?_
    refine sBk (lo' := [(0, vr 13 0), (1, vi a1)]) (st' := [vl (Int32.toInt64 ((rI μ 61 0 2) - 1)), vl 0, vl (Int32.toInt64 a1)]) (μ' := μ) (pc' := 12) [(.iconst 1, 0, 0, 1, 0), (.isub, 0, 0, 0, 0), (.i2l, 0, 0, 0, 0)] (by decide +kernel) rfl rfl ?_
    refine sCsI oI rfl (avs := [vl (Int32.toInt64 a1), vl 0, vl (Int32.toInt64 ((rI μ 61 0 2) - 1))]) (rest := []) (tX12_isIn (Int32.toInt64 a1) 0 (Int32.toInt64 ((rI μ 61 0 2) - 1)) μ) (by decide) (by decide +kernel) lk_12_107 ys_X12_isIn rfl rfl (Nat.le_of_ble_eq_true rfl) (fun x1 μ2 => ?_)
    exact sCk oI rfl (fun h => sRi (by decide +kernel) (fun _ => h))
/-! ClockRiverModel.winder -/
def X12_winder (a1 : Int32) (a2 : Int32) (μ : sM) : Option (Int32 × sM) :=
  bI (X12_isWinderAt a1 (wI (wI μ 13 0 1 0) 13 0 0 0)) fun x1 μ2 =>
    if x1 = 0 then
      bI (X12_refuse 2 μ2) fun x7 μ8 =>
        some (x7, μ8)
    else
      bI (X12_isIn (Int32.toInt64 a2) 0 3 μ2) fun x3 μ4 =>
        if x3 = 0 then
          bI (X12_refuse 5 μ4) fun x5 μ6 =>
            some (x5, μ6)
        else
          if inb ((52 + (6 * a2)) + a1) 1740 = true then
            some ((rI μ4 61 0 (ix ((52 + (6 * a2)) + a1))), μ4)
          else none
theorem tX12_winder (a1 : Int32) (a2 : Int32) (μ : sM) : sMt yX12_winder cX12_winder 3 (some .int) 3 [vr 13 0, vi a1, vi a2] μ (oI (X12_winder a1 a2 μ)) := by
  refine sMt_of (own := 12) (bl := false) (by decide +kernel) rfl (Nat.le_of_ble_eq_true rfl) (fun r ρ h => ?_) ?_
  · obtain ⟨q, -, hq⟩ := Option.map_eq_some_iff.mp h
    cases hq
    exact Or.inl rfl
  · unfold X12_winder
    show sOk 12 cX12_winder 3 3 false 0 [(0, vr 13 0), (1, vi a1), (2, vi a2)] [] μ _
    refine sBk (lo' := [(0, vr 13 0), (1, vi a1), (2, vi a2)]) (st' := [vi a1, vr 13 0]) (μ' := wI (wI μ 13 0 1 0) 13 0 0 0) (pc' := 12) [(.aload_n 0, 0, 0, 0, 0), (.iconst 0, 0, 0, 0, 0), (.putfield 72, 12, 1, 0, 0), (.aload_n 0, 0, 0, 0, 0), (.iconst 0, 0, 0, 0, 0), (.putfield 75, 12, 0, 0, 0), (.aload_n 0, 0, 0, 0, 0), (.iload_n 1, 0, 0, 0, 0)] (by decide +kernel) rfl rfl ?_
    refine sCvI oI rfl (ci := 12) (q := (13, 0)) (avs := [vi a1]) (rest := []) (tX12_isWinderAt a1 (wI (wI μ 13 0 1 0) 13 0 0 0)) (by decide) (by decide +kernel) lk_12_355 yv_X12_isWinderAt rfl (by decide) rfl rfl rfl (Nat.le_of_ble_eq_true rfl) (fun x1 μ2 => ?_)
    refine sIf_ne oI (off := 9) (tgt := 24) (by decide +kernel) (by decide) (fun _ => ?_) (fun _ => ?_)
    · refine sBk (lo' := [(0, vr 13 0), (1, vi a1), (2, vi a2)]) (st' := [vl 3, vl 0, vl (Int32.toInt64 a2)]) (μ' := μ2) (pc' := 30) [(.iload_n 2, 0, 0, 0, 0), (.i2l, 0, 0, 0, 0), (.lconst 0, 0, 0, 0, 0), (.ldc2_w 105, 0, 0, 0, 3)] (by decide +kernel) rfl rfl ?_
      refine sCsI oI rfl (avs := [vl (Int32.toInt64 a2), vl 0, vl 3]) (rest := []) (tX12_isIn (Int32.toInt64 a2) 0 3 μ2) (by decide) (by decide +kernel) lk_12_107 ys_X12_isIn rfl rfl (Nat.le_of_ble_eq_true rfl) (fun x3 μ4 => ?_)
      refine sIf_eq oI (off := 20) (tgt := 53) (by decide +kernel) (by decide) (fun _ => ?_) (fun _ => ?_)
      · refine sBk (lo' := [(0, vr 13 0), (1, vi a1), (2, vi a2)]) (st' := [vi 5, vr 13 0]) (μ' := μ4) (pc' := 55) [(.aload_n 0, 0, 0, 0, 0), (.iconst 5, 0, 0, 5, 0)] (by decide +kernel) rfl rfl ?_
        refine sCvI oI rfl (ci := 12) (q := (13, 0)) (avs := [vi 5]) (rest := []) (tX12_refuse 5 μ4) (by decide) (by decide +kernel) lk_12_325 yv_X12_refuse rfl (by decide) rfl rfl rfl (Nat.le_of_ble_eq_true rfl) (fun x5 μ6 => ?_)
        exact sRi (by decide +kernel) (fun h => by cases h)
      · refine sBk (lo' := [(0, vr 13 0), (1, vi a1), (2, vi a2)]) (st' := [vi ((52 + (6 * a2)) + a1), vr 61 0]) (μ' := μ4) (pc' := 49) [(.aload_n 0, 0, 0, 0, 0), (.getfield 35, 12, 20, 0, 0), (.bipush 52, 0, 0, 52, 0), (.bipush 6, 0, 0, 6, 0), (.iload_n 2, 0, 0, 0, 0), (.imul, 0, 0, 0, 0), (.iadd, 0, 0, 0, 0), (.iload_n 1, 0, 0, 0, 0), (.iadd, 0, 0, 0, 0)] (by decide +kernel) rfl rfl ?_
        refine sS_ial oI rfl (n := 1740) (j := (ix ((52 + (6 * a2)) + a1))) (by decide +kernel) rfl rfl rfl (fun _ => ?_)
        refine sGt (off := 8) (tgt := 58) (by decide +kernel) (by decide) ?_
        exact sRi (by decide +kernel) (fun h => by cases h)
    · refine sBk (lo' := [(0, vr 13 0), (1, vi a1), (2, vi a2)]) (st' := [vi 2, vr 13 0]) (μ' := μ2) (pc' := 20) [(.aload_n 0, 0, 0, 0, 0), (.iconst 2, 0, 0, 2, 0)] (by decide +kernel) rfl rfl ?_
      refine sCvI oI rfl (ci := 12) (q := (13, 0)) (avs := [vi 2]) (rest := []) (tX12_refuse 2 μ2) (by decide) (by decide +kernel) lk_12_325 yv_X12_refuse rfl (by decide) rfl rfl rfl (Nat.le_of_ble_eq_true rfl) (fun x7 μ8 => ?_)
      exact sRi (by decide +kernel) (fun h => by cases h)
/-! ClockRiverModel.isTray -/
def X12_isTray (a1 : Int32) (μ : sM) : Option (Int32 × sM) :=
  bI (X12_isIn (Int32.toInt64 a1) 0 3 μ) fun x1 μ2 =>
    if x1 = 0 ∨ x1 = 1 then some (x1, μ2) else none
theorem tX12_isTray (a1 : Int32) (μ : sM) : sMt yX12_isTray cX12_isTray 2 (some .boolean) 2 [vr 13 0, vi a1] μ (oI (X12_isTray a1 μ)) := by
  refine sMt_of (own := 12) (bl := true) (by decide +kernel) rfl (Nat.le_of_ble_eq_true rfl) (fun r ρ h => ?_) ?_
  · obtain ⟨q, -, hq⟩ := Option.map_eq_some_iff.mp h
    cases hq
    exact Or.inr ⟨rfl, rfl⟩
  · unfold X12_isTray
    show sOk 12 cX12_isTray 2 2 true 0 [(0, vr 13 0), (1, vi a1)] [] μ _
    refine sBk (lo' := [(0, vr 13 0), (1, vi a1)]) (st' := [vl 3, vl 0, vl (Int32.toInt64 a1)]) (μ' := μ) (pc' := 6) [(.iload_n 1, 0, 0, 0, 0), (.i2l, 0, 0, 0, 0), (.lconst 0, 0, 0, 0, 0), (.ldc2_w 105, 0, 0, 0, 3)] (by decide +kernel) rfl rfl ?_
    refine sCsI oI rfl (avs := [vl (Int32.toInt64 a1), vl 0, vl 3]) (rest := []) (tX12_isIn (Int32.toInt64 a1) 0 3 μ) (by decide) (by decide +kernel) lk_12_107 ys_X12_isIn rfl rfl (Nat.le_of_ble_eq_true rfl) (fun x1 μ2 => ?_)
    exact sCk oI rfl (fun h => sRi (by decide +kernel) (fun _ => h))
/-! ClockRiverModel.copyStored -/
def X12_copyStored_L62 : Nat → Int32 → Int32 → sM → Option (Int32 × sM)
  | 0, _, _, _ => none
  | n + 1, v1, v2, μ =>
    if (rI μ 61 0 0) ≤ v2 then
      some ((rI μ 61 0 0), μ)
    else
      if inb (28 + v2) 1740 = true then
        bI (X12_write v1 v2 (Int32.toInt64 (rI μ 61 0 (ix (28 + v2)))) μ) fun x1 μ2 =>
          X12_copyStored_L62 n v1 (v2 + 1) μ2
      else none
theorem X12_copyStored_L62_ok : ∀ (n : Nat) (v1 : Int32) (v2 : Int32) (μ : sM), sOk 12 cX12_copyStored 3 4 false 62 [(0, vr 13 0), (1, vi v1), (2, vi v2)] [] μ (oI (X12_copyStored_L62 n v1 v2 μ)) := by
  intro n
  induction n with
  | zero =>
    intros
    exact sNo
  | succ n ih =>
    intro v1 v2 μ
    unfold X12_copyStored_L62
    refine sBk (lo' := [(0, vr 13 0), (1, vi v1), (2, vi v2)]) (st' := [vi 0, vr 61 0, vi v2]) (μ' := μ) (pc' := 68) [(.iload_n 2, 0, 0, 0, 0), (.aload_n 0, 0, 0, 0, 0), (.getfield 35, 12, 20, 0, 0), (.iconst 0, 0, 0, 0, 0)] (by decide +kernel) rfl rfl ?_
    refine sC_ial (n := 1740) (j := 0) (by decide +kernel) (by decide +kernel) rfl rfl (by decide +kernel) ?_
    refine sIc_ge oI (off := 26) (tgt := 95) (by decide +kernel) (by decide) (fun _ => ?_) (fun _ => ?_)
    · refine sBk (lo' := [(0, vr 13 0), (1, vi v1), (2, vi v2)]) (st' := [vi 0, vr 61 0]) (μ' := μ) (pc' := 100) [(.aload_n 0, 0, 0, 0, 0), (.getfield 35, 12, 20, 0, 0), (.iconst 0, 0, 0, 0, 0)] (by decide +kernel) rfl rfl ?_
      refine sC_ial (n := 1740) (j := 0) (by decide +kernel) (by decide +kernel) rfl rfl (by decide +kernel) ?_
      exact sRi (by decide +kernel) (fun h => by cases h)
    · refine sBk (lo' := [(0, vr 13 0), (1, vi v1), (2, vi v2)]) (st' := [vi (28 + v2), vr 61 0, vi v2, vi v1, vr 13 0]) (μ' := μ) (pc' := 83) [(.aload_n 0, 0, 0, 0, 0), (.iload_n 1, 0, 0, 0, 0), (.iload_n 2, 0, 0, 0, 0), (.aload_n 0, 0, 0, 0, 0), (.getfield 35, 12, 20, 0, 0), (.bipush 28, 0, 0, 28, 0), (.iload_n 2, 0, 0, 0, 0), (.iadd, 0, 0, 0, 0)] (by decide +kernel) rfl rfl ?_
      refine sS_ial oI rfl (n := 1740) (j := (ix (28 + v2))) (by decide +kernel) rfl rfl rfl (fun _ => ?_)
      refine sBk (lo' := [(0, vr 13 0), (1, vi v1), (2, vi v2)]) (st' := [vl (Int32.toInt64 (rI μ 61 0 (ix (28 + v2)))), vi v2, vi v1, vr 13 0]) (μ' := μ) (pc' := 85) [(.i2l, 0, 0, 0, 0)] (by decide +kernel) rfl rfl ?_
      refine sCvI oI rfl (ci := 12) (q := (13, 0)) (avs := [vi v1, vi v2, vl (Int32.toInt64 (rI μ 61 0 (ix (28 + v2))))]) (rest := []) (tX12_write v1 v2 (Int32.toInt64 (rI μ 61 0 (ix (28 + v2)))) μ) (by decide) (by decide +kernel) lk_12_361 yv_X12_write rfl (by decide) rfl rfl rfl (Nat.le_of_ble_eq_true rfl) (fun x1 μ2 => ?_)
      refine sBk (lo' := [(2, vi (v2 + 1)), (0, vr 13 0), (1, vi v1)]) (st' := []) (μ' := μ2) (pc' := 92) [(.pop, 0, 0, 0, 0), (.iinc 2 1, 0, 0, 1, 0)] (by decide +kernel) rfl rfl ?_
      refine sGt (off := (-30)) (tgt := 62) (by decide +kernel) (by decide) ?_
      refine sWk (lo' := [(0, vr 13 0), (1, vi v1), (2, vi (v2 + 1))]) [1, 2, 0] rfl ?_
      exact ih v1 (v2 + 1) μ2
def X12_copyStored (a1 : Int32) (μ : sM) : Option (Int32 × sM) :=
  bI (X12_isTray a1 (wI (wI μ 13 0 1 0) 13 0 0 0)) fun x1 μ2 =>
    if x1 = 0 then
      bI (X12_refuse 1 μ2) fun x7 μ8 =>
        some (x7, μ8)
    else
      if inb a1 4 = true then
        if 0 ≤ (rI μ2 58 0 (ix a1)) then
          if inb a1 4 = true then
            if (rI μ2 61 0 0) ≤ (rI μ2 58 0 (ix a1)) then
              X12_copyStored_L62 fuN a1 0 μ2
            else
              bI (X12_refuse 4 μ2) fun x3 μ4 =>
                some (x3, μ4)
          else none
        else
          bI (X12_refuse 3 μ2) fun x5 μ6 =>
            some (x5, μ6)
      else none
theorem tX12_copyStored (a1 : Int32) (μ : sM) : sMt yX12_copyStored cX12_copyStored 3 (some .int) 4 [vr 13 0, vi a1] μ (oI (X12_copyStored a1 μ)) := by
  refine sMt_of (own := 12) (bl := false) (by decide +kernel) rfl (Nat.le_of_ble_eq_true rfl) (fun r ρ h => ?_) ?_
  · obtain ⟨q, -, hq⟩ := Option.map_eq_some_iff.mp h
    cases hq
    exact Or.inl rfl
  · unfold X12_copyStored
    show sOk 12 cX12_copyStored 3 4 false 0 [(0, vr 13 0), (1, vi a1)] [] μ _
    refine sBk (lo' := [(0, vr 13 0), (1, vi a1)]) (st' := [vi a1, vr 13 0]) (μ' := wI (wI μ 13 0 1 0) 13 0 0 0) (pc' := 12) [(.aload_n 0, 0, 0, 0, 0), (.iconst 0, 0, 0, 0, 0), (.putfield 72, 12, 1, 0, 0), (.aload_n 0, 0, 0, 0, 0), (.iconst 0, 0, 0, 0, 0), (.putfield 75, 12, 0, 0, 0), (.aload_n 0, 0, 0, 0, 0), (.iload_n 1, 0, 0, 0, 0)] (by decide +kernel) rfl rfl ?_
    refine sCvI oI rfl (ci := 12) (q := (13, 0)) (avs := [vi a1]) (rest := []) (tX12_isTray a1 (wI (wI μ 13 0 1 0) 13 0 0 0)) (by decide) (by decide +kernel) lk_12_358 yv_X12_isTray rfl (by decide) rfl rfl rfl (Nat.le_of_ble_eq_true rfl) (fun x1 μ2 => ?_)
    refine sIf_ne oI (off := 9) (tgt := 24) (by decide +kernel) (by decide) (fun _ => ?_) (fun _ => ?_)
    · refine sBk (lo' := [(0, vr 13 0), (1, vi a1)]) (st' := [vi a1, vr 58 0]) (μ' := μ2) (pc' := 29) [(.aload_n 0, 0, 0, 0, 0), (.getfield 17, 12, 5, 0, 0), (.iload_n 1, 0, 0, 0, 0)] (by decide +kernel) rfl rfl ?_
      refine sS_ial oI rfl (n := 4) (j := (ix a1)) (by decide +kernel) rfl rfl rfl (fun _ => ?_)
      refine sIf_ge oI (off := 9) (tgt := 39) (by decide +kernel) (by decide) (fun _ => ?_) (fun _ => ?_)
      · refine sBk (lo' := [(0, vr 13 0), (1, vi a1)]) (st' := [vi a1, vr 58 0]) (μ' := μ2) (pc' := 44) [(.aload_n 0, 0, 0, 0, 0), (.getfield 17, 12, 5, 0, 0), (.iload_n 1, 0, 0, 0, 0)] (by decide +kernel) rfl rfl ?_
        refine sS_ial oI rfl (n := 4) (j := (ix a1)) (by decide +kernel) rfl rfl rfl (fun _ => ?_)
        refine sBk (lo' := [(0, vr 13 0), (1, vi a1)]) (st' := [vi 0, vr 61 0, vi (rI μ2 58 0 (ix a1))]) (μ' := μ2) (pc' := 50) [(.aload_n 0, 0, 0, 0, 0), (.getfield 35, 12, 20, 0, 0), (.iconst 0, 0, 0, 0, 0)] (by decide +kernel) rfl rfl ?_
        refine sC_ial (n := 1740) (j := 0) (by decide +kernel) (by decide +kernel) rfl rfl (by decide +kernel) ?_
        refine sIc_ge oI (off := 9) (tgt := 60) (by decide +kernel) (by decide) (fun _ => ?_) (fun _ => ?_)
        · refine sBk (lo' := [(2, vi 0), (0, vr 13 0), (1, vi a1)]) (st' := []) (μ' := μ2) (pc' := 62) [(.iconst 0, 0, 0, 0, 0), (.istore_n 2, 0, 0, 0, 0)] (by decide +kernel) rfl rfl ?_
          refine sWk (lo' := [(0, vr 13 0), (1, vi a1), (2, vi 0)]) [1, 2, 0] rfl ?_
          exact X12_copyStored_L62_ok fuN a1 0 μ2
        · refine sBk (lo' := [(0, vr 13 0), (1, vi a1)]) (st' := [vi 4, vr 13 0]) (μ' := μ2) (pc' := 56) [(.aload_n 0, 0, 0, 0, 0), (.iconst 4, 0, 0, 4, 0)] (by decide +kernel) rfl rfl ?_
          refine sCvI oI rfl (ci := 12) (q := (13, 0)) (avs := [vi 4]) (rest := []) (tX12_refuse 4 μ2) (by decide) (by decide +kernel) lk_12_325 yv_X12_refuse rfl (by decide) rfl rfl rfl (Nat.le_of_ble_eq_true rfl) (fun x3 μ4 => ?_)
          exact sRi (by decide +kernel) (fun h => by cases h)
      · refine sBk (lo' := [(0, vr 13 0), (1, vi a1)]) (st' := [vi 3, vr 13 0]) (μ' := μ2) (pc' := 35) [(.aload_n 0, 0, 0, 0, 0), (.iconst 3, 0, 0, 3, 0)] (by decide +kernel) rfl rfl ?_
        refine sCvI oI rfl (ci := 12) (q := (13, 0)) (avs := [vi 3]) (rest := []) (tX12_refuse 3 μ2) (by decide) (by decide +kernel) lk_12_325 yv_X12_refuse rfl (by decide) rfl rfl rfl (Nat.le_of_ble_eq_true rfl) (fun x5 μ6 => ?_)
        exact sRi (by decide +kernel) (fun h => by cases h)
    · refine sBk (lo' := [(0, vr 13 0), (1, vi a1)]) (st' := [vi 1, vr 13 0]) (μ' := μ2) (pc' := 20) [(.aload_n 0, 0, 0, 0, 0), (.iconst 1, 0, 0, 1, 0)] (by decide +kernel) rfl rfl ?_
      refine sCvI oI rfl (ci := 12) (q := (13, 0)) (avs := [vi 1]) (rest := []) (tX12_refuse 1 μ2) (by decide) (by decide +kernel) lk_12_325 yv_X12_refuse rfl (by decide) rfl rfl rfl (Nat.le_of_ble_eq_true rfl) (fun x7 μ8 => ?_)
      exact sRi (by decide +kernel) (fun h => by cases h)
/-! ClockRiverModel.flowsDown -/
def X12_flowsDown_L21 : Nat → Int32 → Int32 → sM → Option sM
  | 0, _, _, _ => none
  | n + 1, v1, v2, μ =>
    if (rI μ 61 0 0) ≤ v2 then
      some (wI μ 61 0 10 ((rI μ 61 0 10) + v1))
    else
      if inb (28 + v2) 1740 = true then
        if inb v2 6 = true then
          if inb (28 + v2) 1740 = true then
            if inb v2 6 = true then
              X12_flowsDown_L21 n (rI μ 65 0 (ix v2)) (v2 + 1) (wI μ 61 0 (ix (28 + v2)) ((rI μ 61 0 (ix (28 + v2))) + (v1 - (rI μ 65 0 (ix v2)))))
            else none
          else none
        else none
      else none
theorem X12_flowsDown_L21_ok : ∀ (n : Nat) (v1 : Int32) (v2 : Int32) (μ : sM), sOk 12 cX12_flowsDown 3 1 false 21 [(0, vr 13 0), (1, vi v1), (2, vi v2)] [] μ (oV (X12_flowsDown_L21 n v1 v2 μ)) := by
  intro n
  induction n with
  | zero =>
    intros
    exact sNo
  | succ n ih =>
    intro v1 v2 μ
    unfold X12_flowsDown_L21
    refine sBk (lo' := [(0, vr 13 0), (1, vi v1), (2, vi v2)]) (st' := [vi 0, vr 61 0, vi v2]) (μ' := μ) (pc' := 27) [(.iload_n 2, 0, 0, 0, 0), (.aload_n 0, 0, 0, 0, 0), (.getfield 35, 12, 20, 0, 0), (.iconst 0, 0, 0, 0, 0)] (by decide +kernel) rfl rfl ?_
    refine sC_ial (n := 1740) (j := 0) (by decide +kernel) (by decide +kernel) rfl rfl (by decide +kernel) ?_
    refine sIc_ge oV (off := 36) (tgt := 64) (by decide +kernel) (by decide) (fun _ => ?_) (fun _ => ?_)
    · refine sBk (lo' := [(0, vr 13 0), (1, vi v1), (2, vi v2)]) (st' := [vi 10, vr 61 0, vi 10, vr 61 0]) (μ' := μ) (pc' := 71) [(.aload_n 0, 0, 0, 0, 0), (.getfield 35, 12, 20, 0, 0), (.bipush 10, 0, 0, 10, 0), (.dup2, 0, 0, 0, 0)] (by decide +kernel) rfl rfl ?_
      refine sC_ial (n := 1740) (j := 10) (by decide +kernel) (by decide +kernel) rfl rfl (by decide +kernel) ?_
      refine sBk (lo' := [(0, vr 13 0), (1, vi v1), (2, vi v2)]) (st' := [vi ((rI μ 61 0 10) + v1), vi 10, vr 61 0]) (μ' := μ) (pc' := 74) [(.iload_n 1, 0, 0, 0, 0), (.iadd, 0, 0, 0, 0)] (by decide +kernel) rfl rfl ?_
      refine sC_ias (n := 1740) (j := 10) (by decide +kernel) (by decide +kernel) rfl rfl (by decide +kernel) ?_
      exact sRv (by decide +kernel)
    · refine sBk (lo' := [(0, vr 13 0), (1, vi v1), (2, vi v2)]) (st' := [vi (28 + v2), vr 61 0, vi (28 + v2), vr 61 0]) (μ' := μ) (pc' := 40) [(.aload_n 0, 0, 0, 0, 0), (.getfield 35, 12, 20, 0, 0), (.bipush 28, 0, 0, 28, 0), (.iload_n 2, 0, 0, 0, 0), (.iadd, 0, 0, 0, 0), (.dup2, 0, 0, 0, 0)] (by decide +kernel) rfl rfl ?_
      refine sS_ial oV rfl (n := 1740) (j := (ix (28 + v2))) (by decide +kernel) rfl rfl rfl (fun _ => ?_)
      refine sBk (lo' := [(0, vr 13 0), (1, vi v1), (2, vi v2)]) (st' := [vi v2, vr 65 0, vi v1, vi (rI μ 61 0 (ix (28 + v2))), vi (28 + v2), vr 61 0]) (μ' := μ) (pc' := 47) [(.iload_n 1, 0, 0, 0, 0), (.aload_n 0, 0, 0, 0, 0), (.getfield 47, 12, 27, 0, 0), (.iload_n 2, 0, 0, 0, 0)] (by decide +kernel) rfl rfl ?_
      refine sS_ial oV rfl (n := 6) (j := (ix v2)) (by decide +kernel) rfl rfl rfl (fun _ => ?_)
      refine sBk (lo' := [(0, vr 13 0), (1, vi v1), (2, vi v2)]) (st' := [vi ((rI μ 61 0 (ix (28 + v2))) + (v1 - (rI μ 65 0 (ix v2)))), vi (28 + v2), vr 61 0]) (μ' := μ) (pc' := 50) [(.isub, 0, 0, 0, 0), (.iadd, 0, 0, 0, 0)] (by decide +kernel) rfl rfl ?_
      refine sS_ias oV rfl (n := 1740) (j := (ix (28 + v2))) (by decide +kernel) rfl rfl rfl (fun _ => ?_)
      refine sBk (lo' := [(0, vr 13 0), (1, vi v1), (2, vi v2)]) (st' := [vi v2, vr 65 0]) (μ' := wI μ 61 0 (ix (28 + v2)) ((rI μ 61 0 (ix (28 + v2))) + (v1 - (rI μ 65 0 (ix v2))))) (pc' := 56) [(.aload_n 0, 0, 0, 0, 0), (.getfield 47, 12, 27, 0, 0), (.iload_n 2, 0, 0, 0, 0)] (by decide +kernel) rfl rfl ?_
      refine sS_ial oV rfl (n := 6) (j := (ix v2)) (by decide +kernel) rfl rfl rfl (fun _ => ?_)
      refine sBk (lo' := [(2, vi (v2 + 1)), (1, vi (rI μ 65 0 (ix v2))), (0, vr 13 0)]) (st' := []) (μ' := wI μ 61 0 (ix (28 + v2)) ((rI μ 61 0 (ix (28 + v2))) + (v1 - (rI μ 65 0 (ix v2))))) (pc' := 61) [(.istore_n 1, 0, 0, 0, 0), (.iinc 2 1, 0, 0, 1, 0)] (by decide +kernel) rfl rfl ?_
      refine sGt (off := (-40)) (tgt := 21) (by decide +kernel) (by decide) ?_
      refine sWk (lo' := [(0, vr 13 0), (1, vi (rI μ 65 0 (ix v2))), (2, vi (v2 + 1))]) [2, 1, 0] rfl ?_
      exact ih (rI μ 65 0 (ix v2)) (v2 + 1) (wI μ 61 0 (ix (28 + v2)) ((rI μ 61 0 (ix (28 + v2))) + (v1 - (rI μ 65 0 (ix v2)))))
def X12_flowsDown (μ : sM) : Option sM :=
  X12_flowsDown_L21 fuN (rI μ 61 0 9) 0 (wI μ 61 0 14 ((rI μ 61 0 14) + (rI μ 61 0 9)))
theorem tX12_flowsDown (μ : sM) : sMt yX12_flowsDown cX12_flowsDown 3 none 1 [vr 13 0] μ (oV (X12_flowsDown μ)) := by
  refine sMt_of (own := 12) (bl := false) (by decide +kernel) rfl (Nat.le_of_ble_eq_true rfl) (fun r ρ h => ?_) ?_
  · obtain ⟨q, -, hq⟩ := Option.map_eq_some_iff.mp h
    cases hq
    exact rfl
  · unfold X12_flowsDown
    show sOk 12 cX12_flowsDown 3 1 false 0 [(0, vr 13 0)] [] μ _
    refine sBk (lo' := [(0, vr 13 0)]) (st' := [vi 9, vr 61 0]) (μ' := μ) (pc' := 6) [(.aload_n 0, 0, 0, 0, 0), (.getfield 35, 12, 20, 0, 0), (.bipush 9, 0, 0, 9, 0)] (by decide +kernel) rfl rfl ?_
    refine sC_ial (n := 1740) (j := 9) (by decide +kernel) (by decide +kernel) rfl rfl (by decide +kernel) ?_
    refine sBk (lo' := [(1, vi (rI μ 61 0 9)), (0, vr 13 0)]) (st' := [vi 14, vr 61 0, vi 14, vr 61 0]) (μ' := μ) (pc' := 15) [(.istore_n 1, 0, 0, 0, 0), (.aload_n 0, 0, 0, 0, 0), (.getfield 35, 12, 20, 0, 0), (.bipush 14, 0, 0, 14, 0), (.dup2, 0, 0, 0, 0)] (by decide +kernel) rfl rfl ?_
    refine sC_ial (n := 1740) (j := 14) (by decide +kernel) (by decide +kernel) rfl rfl (by decide +kernel) ?_
    refine sBk (lo' := [(1, vi (rI μ 61 0 9)), (0, vr 13 0)]) (st' := [vi ((rI μ 61 0 14) + (rI μ 61 0 9)), vi 14, vr 61 0]) (μ' := μ) (pc' := 18) [(.iload_n 1, 0, 0, 0, 0), (.iadd, 0, 0, 0, 0)] (by decide +kernel) rfl rfl ?_
    refine sC_ias (n := 1740) (j := 14) (by decide +kernel) (by decide +kernel) rfl rfl (by decide +kernel) ?_
    refine sBk (lo' := [(2, vi 0), (1, vi (rI μ 61 0 9)), (0, vr 13 0)]) (st' := []) (μ' := wI μ 61 0 14 ((rI μ 61 0 14) + (rI μ 61 0 9))) (pc' := 21) [(.iconst 0, 0, 0, 0, 0), (.istore_n 2, 0, 0, 0, 0)] (by decide +kernel) rfl rfl ?_
    refine sWk (lo' := [(0, vr 13 0), (1, vi (rI μ 61 0 9)), (2, vi 0)]) [2, 1, 0] rfl ?_
    exact X12_flowsDown_L21_ok fuN (rI μ 61 0 9) 0 (wI μ 61 0 14 ((rI μ 61 0 14) + (rI μ 61 0 9)))
/-! ClockRiverModel.flowsUp -/
def X12_flowsUp_L29 : Nat → Int32 → Int32 → sM → Option sM
  | 0, _, _, _ => none
  | n + 1, v1, v2, μ =>
    if v2 < 0 then
      some (wI μ 61 0 12 ((rI μ 61 0 12) + v1))
    else
      if inb (28 + v2) 1740 = true then
        if inb v2 6 = true then
          if inb (28 + v2) 1740 = true then
            if inb v2 6 = true then
              X12_flowsUp_L29 n (rI μ 65 0 (ix v2)) (v2 + (-1)) (wI μ 61 0 (ix (28 + v2)) ((rI μ 61 0 (ix (28 + v2))) + (v1 - (rI μ 65 0 (ix v2)))))
            else none
          else none
        else none
      else none
theorem X12_flowsUp_L29_ok : ∀ (n : Nat) (v1 : Int32) (v2 : Int32) (μ : sM), sOk 12 cX12_flowsUp 3 1 false 29 [(0, vr 13 0), (1, vi v1), (2, vi v2)] [] μ (oV (X12_flowsUp_L29 n v1 v2 μ)) := by
  intro n
  induction n with
  | zero =>
    intros
    exact sNo
  | succ n ih =>
    intro v1 v2 μ
    unfold X12_flowsUp_L29
    refine sBk (lo' := [(0, vr 13 0), (1, vi v1), (2, vi v2)]) (st' := [vi v2]) (μ' := μ) (pc' := 30) [(.iload_n 2, 0, 0, 0, 0)] (by decide +kernel) rfl rfl ?_
    refine sIf_lt oV (off := 36) (tgt := 66) (by decide +kernel) (by decide) (fun _ => ?_) (fun _ => ?_)
    · refine sBk (lo' := [(0, vr 13 0), (1, vi v1), (2, vi v2)]) (st' := [vi 12, vr 61 0, vi 12, vr 61 0]) (μ' := μ) (pc' := 73) [(.aload_n 0, 0, 0, 0, 0), (.getfield 35, 12, 20, 0, 0), (.bipush 12, 0, 0, 12, 0), (.dup2, 0, 0, 0, 0)] (by decide +kernel) rfl rfl ?_
      refine sC_ial (n := 1740) (j := 12) (by decide +kernel) (by decide +kernel) rfl rfl (by decide +kernel) ?_
      refine sBk (lo' := [(0, vr 13 0), (1, vi v1), (2, vi v2)]) (st' := [vi ((rI μ 61 0 12) + v1), vi 12, vr 61 0]) (μ' := μ) (pc' := 76) [(.iload_n 1, 0, 0, 0, 0), (.iadd, 0, 0, 0, 0)] (by decide +kernel) rfl rfl ?_
      refine sC_ias (n := 1740) (j := 12) (by decide +kernel) (by decide +kernel) rfl rfl (by decide +kernel) ?_
      exact sRv (by decide +kernel)
    · refine sBk (lo' := [(0, vr 13 0), (1, vi v1), (2, vi v2)]) (st' := [vi (28 + v2), vr 61 0, vi (28 + v2), vr 61 0]) (μ' := μ) (pc' := 42) [(.aload_n 0, 0, 0, 0, 0), (.getfield 35, 12, 20, 0, 0), (.bipush 28, 0, 0, 28, 0), (.iload_n 2, 0, 0, 0, 0), (.iadd, 0, 0, 0, 0), (.dup2, 0, 0, 0, 0)] (by decide +kernel) rfl rfl ?_
      refine sS_ial oV rfl (n := 1740) (j := (ix (28 + v2))) (by decide +kernel) rfl rfl rfl (fun _ => ?_)
      refine sBk (lo' := [(0, vr 13 0), (1, vi v1), (2, vi v2)]) (st' := [vi v2, vr 65 0, vi v1, vi (rI μ 61 0 (ix (28 + v2))), vi (28 + v2), vr 61 0]) (μ' := μ) (pc' := 49) [(.iload_n 1, 0, 0, 0, 0), (.aload_n 0, 0, 0, 0, 0), (.getfield 47, 12, 27, 0, 0), (.iload_n 2, 0, 0, 0, 0)] (by decide +kernel) rfl rfl ?_
      refine sS_ial oV rfl (n := 6) (j := (ix v2)) (by decide +kernel) rfl rfl rfl (fun _ => ?_)
      refine sBk (lo' := [(0, vr 13 0), (1, vi v1), (2, vi v2)]) (st' := [vi ((rI μ 61 0 (ix (28 + v2))) + (v1 - (rI μ 65 0 (ix v2)))), vi (28 + v2), vr 61 0]) (μ' := μ) (pc' := 52) [(.isub, 0, 0, 0, 0), (.iadd, 0, 0, 0, 0)] (by decide +kernel) rfl rfl ?_
      refine sS_ias oV rfl (n := 1740) (j := (ix (28 + v2))) (by decide +kernel) rfl rfl rfl (fun _ => ?_)
      refine sBk (lo' := [(0, vr 13 0), (1, vi v1), (2, vi v2)]) (st' := [vi v2, vr 65 0]) (μ' := wI μ 61 0 (ix (28 + v2)) ((rI μ 61 0 (ix (28 + v2))) + (v1 - (rI μ 65 0 (ix v2))))) (pc' := 58) [(.aload_n 0, 0, 0, 0, 0), (.getfield 47, 12, 27, 0, 0), (.iload_n 2, 0, 0, 0, 0)] (by decide +kernel) rfl rfl ?_
      refine sS_ial oV rfl (n := 6) (j := (ix v2)) (by decide +kernel) rfl rfl rfl (fun _ => ?_)
      refine sBk (lo' := [(2, vi (v2 + (-1))), (1, vi (rI μ 65 0 (ix v2))), (0, vr 13 0)]) (st' := []) (μ' := wI μ 61 0 (ix (28 + v2)) ((rI μ 61 0 (ix (28 + v2))) + (v1 - (rI μ 65 0 (ix v2))))) (pc' := 63) [(.istore_n 1, 0, 0, 0, 0), (.iinc 2 (-1), 0, 0, (-1), 0)] (by decide +kernel) rfl rfl ?_
      refine sGt (off := (-34)) (tgt := 29) (by decide +kernel) (by decide) ?_
      refine sWk (lo' := [(0, vr 13 0), (1, vi (rI μ 65 0 (ix v2))), (2, vi (v2 + (-1)))]) [2, 1, 0] rfl ?_
      exact ih (rI μ 65 0 (ix v2)) (v2 + (-1)) (wI μ 61 0 (ix (28 + v2)) ((rI μ 61 0 (ix (28 + v2))) + (v1 - (rI μ 65 0 (ix v2)))))
def X12_flowsUp (μ : sM) : Option sM :=
  X12_flowsUp_L29 fuN (-(rI μ 61 0 9)) ((rI μ 61 0 0) - 1) (wI μ 61 0 11 ((rI μ 61 0 11) + (-(rI μ 61 0 9))))
theorem tX12_flowsUp (μ : sM) : sMt yX12_flowsUp cX12_flowsUp 3 none 1 [vr 13 0] μ (oV (X12_flowsUp μ)) := by
  refine sMt_of (own := 12) (bl := false) (by decide +kernel) rfl (Nat.le_of_ble_eq_true rfl) (fun r ρ h => ?_) ?_
  · obtain ⟨q, -, hq⟩ := Option.map_eq_some_iff.mp h
    cases hq
    exact rfl
  · unfold X12_flowsUp
    show sOk 12 cX12_flowsUp 3 1 false 0 [(0, vr 13 0)] [] μ _
    refine sBk (lo' := [(0, vr 13 0)]) (st' := [vi 9, vr 61 0]) (μ' := μ) (pc' := 6) [(.aload_n 0, 0, 0, 0, 0), (.getfield 35, 12, 20, 0, 0), (.bipush 9, 0, 0, 9, 0)] (by decide +kernel) rfl rfl ?_
    refine sC_ial (n := 1740) (j := 9) (by decide +kernel) (by decide +kernel) rfl rfl (by decide +kernel) ?_
    refine sBk (lo' := [(1, vi (-(rI μ 61 0 9))), (0, vr 13 0)]) (st' := [vi 11, vr 61 0, vi 11, vr 61 0]) (μ' := μ) (pc' := 16) [(.ineg, 0, 0, 0, 0), (.istore_n 1, 0, 0, 0, 0), (.aload_n 0, 0, 0, 0, 0), (.getfield 35, 12, 20, 0, 0), (.bipush 11, 0, 0, 11, 0), (.dup2, 0, 0, 0, 0)] (by decide +kernel) rfl rfl ?_
    refine sC_ial (n := 1740) (j := 11) (by decide +kernel) (by decide +kernel) rfl rfl (by decide +kernel) ?_
    refine sBk (lo' := [(1, vi (-(rI μ 61 0 9))), (0, vr 13 0)]) (st' := [vi ((rI μ 61 0 11) + (-(rI μ 61 0 9))), vi 11, vr 61 0]) (μ' := μ) (pc' := 19) [(.iload_n 1, 0, 0, 0, 0), (.iadd, 0, 0, 0, 0)] (by decide +kernel) rfl rfl ?_
    refine sC_ias (n := 1740) (j := 11) (by decide +kernel) (by decide +kernel) rfl rfl (by decide +kernel) ?_
    refine sBk (lo' := [(1, vi (-(rI μ 61 0 9))), (0, vr 13 0)]) (st' := [vi 0, vr 61 0]) (μ' := wI μ 61 0 11 ((rI μ 61 0 11) + (-(rI μ 61 0 9)))) (pc' := 25) [(.aload_n 0, 0, 0, 0, 0), (.getfield 35, 12, 20, 0, 0), (.iconst 0, 0, 0, 0, 0)] (by decide +kernel) rfl rfl ?_
    refine sC_ial (n := 1740) (j := 0) (by decide +kernel) (by decide +kernel) rfl rfl (by decide +kernel) ?_
    refine sBk (lo' := [(2, vi ((rI μ 61 0 0) - 1)), (1, vi (-(rI μ 61 0 9))), (0, vr 13 0)]) (st' := []) (μ' := wI μ 61 0 11 ((rI μ 61 0 11) + (-(rI μ 61 0 9)))) (pc' := 29) [(.iconst 1, 0, 0, 1, 0), (.isub, 0, 0, 0, 0), (.istore_n 2, 0, 0, 0, 0)] (by decide +kernel) rfl rfl ?_
    refine sWk (lo' := [(0, vr 13 0), (1, vi (-(rI μ 61 0 9))), (2, vi ((rI μ 61 0 0) - 1))]) [2, 1, 0] rfl ?_
    exact X12_flowsUp_L29_ok fuN (-(rI μ 61 0 9)) ((rI μ 61 0 0) - 1) (wI μ 61 0 11 ((rI μ 61 0 11) + (-(rI μ 61 0 9))))
/-! ClockRiverModel.rainsAndFloods -/
def X12_rainsAndFloods_L2 : Nat → Int32 → sM → Option sM
  | 0, _, _ => none
  | n + 1, v1, μ =>
    if (rI μ 61 0 0) ≤ v1 then
      some μ
    else
      if inb (28 + v1) 1740 = true then
        if inb (16 + v1) 1740 = true then
          if inb v1 6 = true then
            if inb (28 + v1) 1740 = true then
              if inb v1 6 = true then
                if inb (28 + v1) 1740 = true then
                  if inb v1 6 = true then
                    X12_rainsAndFloods_L2 n (v1 + 1) (wI (wI (wI (wI μ 61 0 15 ((rI μ 61 0 15) + ((rI μ 61 0 7) * (rI μ 61 0 4)))) 66 0 (ix v1) (imx 0 (((rI (wI μ 61 0 15 ((rI μ 61 0 15) + ((rI μ 61 0 7) * (rI μ 61 0 4)))) 61 0 (ix (28 + v1))) + ((rI μ 61 0 7) * (rI μ 61 0 4))) - (rI (wI μ 61 0 15 ((rI μ 61 0 15) + ((rI μ 61 0 7) * (rI μ 61 0 4)))) 61 0 (ix (16 + v1)))))) 61 0 (ix (28 + v1)) ((rI (wI μ 61 0 15 ((rI μ 61 0 15) + ((rI μ 61 0 7) * (rI μ 61 0 4)))) 61 0 (ix (28 + v1))) + (((rI μ 61 0 7) * (rI μ 61 0 4)) - (rI (wI (wI μ 61 0 15 ((rI μ 61 0 15) + ((rI μ 61 0 7) * (rI μ 61 0 4)))) 66 0 (ix v1) (imx 0 (((rI (wI μ 61 0 15 ((rI μ 61 0 15) + ((rI μ 61 0 7) * (rI μ 61 0 4)))) 61 0 (ix (28 + v1))) + ((rI μ 61 0 7) * (rI μ 61 0 4))) - (rI (wI μ 61 0 15 ((rI μ 61 0 15) + ((rI μ 61 0 7) * (rI μ 61 0 4)))) 61 0 (ix (16 + v1)))))) 66 0 (ix v1))))) 61 0 13 ((rI (wI (wI (wI μ 61 0 15 ((rI μ 61 0 15) + ((rI μ 61 0 7) * (rI μ 61 0 4)))) 66 0 (ix v1) (imx 0 (((rI (wI μ 61 0 15 ((rI μ 61 0 15) + ((rI μ 61 0 7) * (rI μ 61 0 4)))) 61 0 (ix (28 + v1))) + ((rI μ 61 0 7) * (rI μ 61 0 4))) - (rI (wI μ 61 0 15 ((rI μ 61 0 15) + ((rI μ 61 0 7) * (rI μ 61 0 4)))) 61 0 (ix (16 + v1)))))) 61 0 (ix (28 + v1)) ((rI (wI μ 61 0 15 ((rI μ 61 0 15) + ((rI μ 61 0 7) * (rI μ 61 0 4)))) 61 0 (ix (28 + v1))) + (((rI μ 61 0 7) * (rI μ 61 0 4)) - (rI (wI (wI μ 61 0 15 ((rI μ 61 0 15) + ((rI μ 61 0 7) * (rI μ 61 0 4)))) 66 0 (ix v1) (imx 0 (((rI (wI μ 61 0 15 ((rI μ 61 0 15) + ((rI μ 61 0 7) * (rI μ 61 0 4)))) 61 0 (ix (28 + v1))) + ((rI μ 61 0 7) * (rI μ 61 0 4))) - (rI (wI μ 61 0 15 ((rI μ 61 0 15) + ((rI μ 61 0 7) * (rI μ 61 0 4)))) 61 0 (ix (16 + v1)))))) 66 0 (ix v1))))) 61 0 13) + (rI (wI (wI μ 61 0 15 ((rI μ 61 0 15) + ((rI μ 61 0 7) * (rI μ 61 0 4)))) 66 0 (ix v1) (imx 0 (((rI (wI μ 61 0 15 ((rI μ 61 0 15) + ((rI μ 61 0 7) * (rI μ 61 0 4)))) 61 0 (ix (28 + v1))) + ((rI μ 61 0 7) * (rI μ 61 0 4))) - (rI (wI μ 61 0 15 ((rI μ 61 0 15) + ((rI μ 61 0 7) * (rI μ 61 0 4)))) 61 0 (ix (16 + v1)))))) 66 0 (ix v1))))
                  else none
                else none
              else none
            else none
          else none
        else none
      else none
theorem X12_rainsAndFloods_L2_ok : ∀ (n : Nat) (v1 : Int32) (μ : sM), sOk 12 cX12_rainsAndFloods 3 1 false 2 [(0, vr 13 0), (1, vi v1)] [] μ (oV (X12_rainsAndFloods_L2 n v1 μ)) := by
  intro n
  induction n with
  | zero =>
    intros
    exact sNo
  | succ n ih =>
    intro v1 μ
    unfold X12_rainsAndFloods_L2
    refine sBk (lo' := [(0, vr 13 0), (1, vi v1)]) (st' := [vi 0, vr 61 0, vi v1]) (μ' := μ) (pc' := 8) [(.iload_n 1, 0, 0, 0, 0), (.aload_n 0, 0, 0, 0, 0), (.getfield 35, 12, 20, 0, 0), (.iconst 0, 0, 0, 0, 0)] (by decide +kernel) rfl rfl ?_
    refine sC_ial (n := 1740) (j := 0) (by decide +kernel) (by decide +kernel) rfl rfl (by decide +kernel) ?_
    refine sIc_ge oV (off := 102) (tgt := 111) (by decide +kernel) (by decide) (fun _ => ?_) (fun _ => ?_)
    · exact sRv (by decide +kernel)
    · refine sBk (lo' := [(0, vr 13 0), (1, vi v1)]) (st' := [vi 7, vr 61 0]) (μ' := μ) (pc' := 18) [(.aload_n 0, 0, 0, 0, 0), (.getfield 35, 12, 20, 0, 0), (.bipush 7, 0, 0, 7, 0)] (by decide +kernel) rfl rfl ?_
      refine sC_ial (n := 1740) (j := 7) (by decide +kernel) (by decide +kernel) rfl rfl (by decide +kernel) ?_
      refine sBk (lo' := [(0, vr 13 0), (1, vi v1)]) (st' := [vi 4, vr 61 0, vi (rI μ 61 0 7)]) (μ' := μ) (pc' := 24) [(.aload_n 0, 0, 0, 0, 0), (.getfield 35, 12, 20, 0, 0), (.iconst 4, 0, 0, 4, 0)] (by decide +kernel) rfl rfl ?_
      refine sC_ial (n := 1740) (j := 4) (by decide +kernel) (by decide +kernel) rfl rfl (by decide +kernel) ?_
      refine sBk (lo' := [(2, vi ((rI μ 61 0 7) * (rI μ 61 0 4))), (0, vr 13 0), (1, vi v1)]) (st' := [vi 15, vr 61 0, vi 15, vr 61 0]) (μ' := μ) (pc' := 34) [(.imul, 0, 0, 0, 0), (.istore_n 2, 0, 0, 0, 0), (.aload_n 0, 0, 0, 0, 0), (.getfield 35, 12, 20, 0, 0), (.bipush 15, 0, 0, 15, 0), (.dup2, 0, 0, 0, 0)] (by decide +kernel) rfl rfl ?_
      refine sC_ial (n := 1740) (j := 15) (by decide +kernel) (by decide +kernel) rfl rfl (by decide +kernel) ?_
      refine sBk (lo' := [(2, vi ((rI μ 61 0 7) * (rI μ 61 0 4))), (0, vr 13 0), (1, vi v1)]) (st' := [vi ((rI μ 61 0 15) + ((rI μ 61 0 7) * (rI μ 61 0 4))), vi 15, vr 61 0]) (μ' := μ) (pc' := 37) [(.iload_n 2, 0, 0, 0, 0), (.iadd, 0, 0, 0, 0)] (by decide +kernel) rfl rfl ?_
      refine sC_ias (n := 1740) (j := 15) (by decide +kernel) (by decide +kernel) rfl rfl (by decide +kernel) ?_
      refine sBk (lo' := [(2, vi ((rI μ 61 0 7) * (rI μ 61 0 4))), (0, vr 13 0), (1, vi v1)]) (st' := [vi (28 + v1), vr 61 0, vi 0, vi v1, vr 66 0]) (μ' := wI μ 61 0 15 ((rI μ 61 0 15) + ((rI μ 61 0 7) * (rI μ 61 0 4)))) (pc' := 52) [(.aload_n 0, 0, 0, 0, 0), (.getfield 50, 12, 28, 0, 0), (.iload_n 1, 0, 0, 0, 0), (.iconst 0, 0, 0, 0, 0), (.aload_n 0, 0, 0, 0, 0), (.getfield 35, 12, 20, 0, 0), (.bipush 28, 0, 0, 28, 0), (.iload_n 1, 0, 0, 0, 0), (.iadd, 0, 0, 0, 0)] (by decide +kernel) rfl rfl ?_
      refine sS_ial oV rfl (n := 1740) (j := (ix (28 + v1))) (by decide +kernel) rfl rfl rfl (fun _ => ?_)
      refine sBk (lo' := [(2, vi ((rI μ 61 0 7) * (rI μ 61 0 4))), (0, vr 13 0), (1, vi v1)]) (st' := [vi (16 + v1), vr 61 0, vi ((rI (wI μ 61 0 15 ((rI μ 61 0 15) + ((rI μ 61 0 7) * (rI μ 61 0 4)))) 61 0 (ix (28 + v1))) + ((rI μ 61 0 7) * (rI μ 61 0 4))), vi 0, vi v1, vr 66 0]) (μ' := wI μ 61 0 15 ((rI μ 61 0 15) + ((rI μ 61 0 7) * (rI μ 61 0 4)))) (pc' := 63) [(.iload_n 2, 0, 0, 0, 0), (.iadd, 0, 0, 0, 0), (.aload_n 0, 0, 0, 0, 0), (.getfield 35, 12, 20, 0, 0), (.bipush 16, 0, 0, 16, 0), (.iload_n 1, 0, 0, 0, 0), (.iadd, 0, 0, 0, 0)] (by decide +kernel) rfl rfl ?_
      refine sS_ial oV rfl (n := 1740) (j := (ix (16 + v1))) (by decide +kernel) rfl rfl rfl (fun _ => ?_)
      refine sBk (lo' := [(2, vi ((rI μ 61 0 7) * (rI μ 61 0 4))), (0, vr 13 0), (1, vi v1)]) (st' := [vi (((rI (wI μ 61 0 15 ((rI μ 61 0 15) + ((rI μ 61 0 7) * (rI μ 61 0 4)))) 61 0 (ix (28 + v1))) + ((rI μ 61 0 7) * (rI μ 61 0 4))) - (rI (wI μ 61 0 15 ((rI μ 61 0 15) + ((rI μ 61 0 7) * (rI μ 61 0 4)))) 61 0 (ix (16 + v1)))), vi 0, vi v1, vr 66 0]) (μ' := wI μ 61 0 15 ((rI μ 61 0 15) + ((rI μ 61 0 7) * (rI μ 61 0 4)))) (pc' := 65) [(.isub, 0, 0, 0, 0)] (by decide +kernel) rfl rfl ?_
      refine sMax (idx := 256) (p1 := 1835) (by decide +kernel) (by decide) (Nat.le_of_ble_eq_true rfl) ?_
      refine sS_ias oV rfl (n := 6) (j := (ix v1)) (by decide +kernel) rfl rfl rfl (fun _ => ?_)
      refine sBk (lo' := [(2, vi ((rI μ 61 0 7) * (rI μ 61 0 4))), (0, vr 13 0), (1, vi v1)]) (st' := [vi (28 + v1), vr 61 0, vi (28 + v1), vr 61 0]) (μ' := wI (wI μ 61 0 15 ((rI μ 61 0 15) + ((rI μ 61 0 7) * (rI μ 61 0 4)))) 66 0 (ix v1) (imx 0 (((rI (wI μ 61 0 15 ((rI μ 61 0 15) + ((rI μ 61 0 7) * (rI μ 61 0 4)))) 61 0 (ix (28 + v1))) + ((rI μ 61 0 7) * (rI μ 61 0 4))) - (rI (wI μ 61 0 15 ((rI μ 61 0 15) + ((rI μ 61 0 7) * (rI μ 61 0 4)))) 61 0 (ix (16 + v1)))))) (pc' := 78) [(.aload_n 0, 0, 0, 0, 0), (.getfield 35, 12, 20, 0, 0), (.bipush 28, 0, 0, 28, 0), (.iload_n 1, 0, 0, 0, 0), (.iadd, 0, 0, 0, 0), (.dup2, 0, 0, 0, 0)] (by decide +kernel) rfl rfl ?_
      refine sS_ial oV rfl (n := 1740) (j := (ix (28 + v1))) (by decide +kernel) rfl rfl rfl (fun _ => ?_)
      refine sBk (lo' := [(2, vi ((rI μ 61 0 7) * (rI μ 61 0 4))), (0, vr 13 0), (1, vi v1)]) (st' := [vi v1, vr 66 0, vi ((rI μ 61 0 7) * (rI μ 61 0 4)), vi (rI (wI μ 61 0 15 ((rI μ 61 0 15) + ((rI μ 61 0 7) * (rI μ 61 0 4)))) 61 0 (ix (28 + v1))), vi (28 + v1), vr 61 0]) (μ' := wI (wI μ 61 0 15 ((rI μ 61 0 15) + ((rI μ 61 0 7) * (rI μ 61 0 4)))) 66 0 (ix v1) (imx 0 (((rI (wI μ 61 0 15 ((rI μ 61 0 15) + ((rI μ 61 0 7) * (rI μ 61 0 4)))) 61 0 (ix (28 + v1))) + ((rI μ 61 0 7) * (rI μ 61 0 4))) - (rI (wI μ 61 0 15 ((rI μ 61 0 15) + ((rI μ 61 0 7) * (rI μ 61 0 4)))) 61 0 (ix (16 + v1)))))) (pc' := 85) [(.iload_n 2, 0, 0, 0, 0), (.aload_n 0, 0, 0, 0, 0), (.getfield 50, 12, 28, 0, 0), (.iload_n 1, 0, 0, 0, 0)] (by decide +kernel) rfl rfl ?_
      refine sS_ial oV rfl (n := 6) (j := (ix v1)) (by decide +kernel) rfl rfl rfl (fun _ => ?_)
      refine sBk (lo' := [(2, vi ((rI μ 61 0 7) * (rI μ 61 0 4))), (0, vr 13 0), (1, vi v1)]) (st' := [vi ((rI (wI μ 61 0 15 ((rI μ 61 0 15) + ((rI μ 61 0 7) * (rI μ 61 0 4)))) 61 0 (ix (28 + v1))) + (((rI μ 61 0 7) * (rI μ 61 0 4)) - (rI (wI (wI μ 61 0 15 ((rI μ 61 0 15) + ((rI μ 61 0 7) * (rI μ 61 0 4)))) 66 0 (ix v1) (imx 0 (((rI (wI μ 61 0 15 ((rI μ 61 0 15) + ((rI μ 61 0 7) * (rI μ 61 0 4)))) 61 0 (ix (28 + v1))) + ((rI μ 61 0 7) * (rI μ 61 0 4))) - (rI (wI μ 61 0 15 ((rI μ 61 0 15) + ((rI μ 61 0 7) * (rI μ 61 0 4)))) 61 0 (ix (16 + v1)))))) 66 0 (ix v1)))), vi (28 + v1), vr 61 0]) (μ' := wI (wI μ 61 0 15 ((rI μ 61 0 15) + ((rI μ 61 0 7) * (rI μ 61 0 4)))) 66 0 (ix v1) (imx 0 (((rI (wI μ 61 0 15 ((rI μ 61 0 15) + ((rI μ 61 0 7) * (rI μ 61 0 4)))) 61 0 (ix (28 + v1))) + ((rI μ 61 0 7) * (rI μ 61 0 4))) - (rI (wI μ 61 0 15 ((rI μ 61 0 15) + ((rI μ 61 0 7) * (rI μ 61 0 4)))) 61 0 (ix (16 + v1)))))) (pc' := 88) [(.isub, 0, 0, 0, 0), (.iadd, 0, 0, 0, 0)] (by decide +kernel) rfl rfl ?_
      refine sS_ias oV rfl (n := 1740) (j := (ix (28 + v1))) (by decide +kernel) rfl rfl rfl (fun _ => ?_)
      refine sBk (lo' := [(2, vi ((rI μ 61 0 7) * (rI μ 61 0 4))), (0, vr 13 0), (1, vi v1)]) (st' := [vi 13, vr 61 0, vi 13, vr 61 0]) (μ' := wI (wI (wI μ 61 0 15 ((rI μ 61 0 15) + ((rI μ 61 0 7) * (rI μ 61 0 4)))) 66 0 (ix v1) (imx 0 (((rI (wI μ 61 0 15 ((rI μ 61 0 15) + ((rI μ 61 0 7) * (rI μ 61 0 4)))) 61 0 (ix (28 + v1))) + ((rI μ 61 0 7) * (rI μ 61 0 4))) - (rI (wI μ 61 0 15 ((rI μ 61 0 15) + ((rI μ 61 0 7) * (rI μ 61 0 4)))) 61 0 (ix (16 + v1)))))) 61 0 (ix (28 + v1)) ((rI (wI μ 61 0 15 ((rI μ 61 0 15) + ((rI μ 61 0 7) * (rI μ 61 0 4)))) 61 0 (ix (28 + v1))) + (((rI μ 61 0 7) * (rI μ 61 0 4)) - (rI (wI (wI μ 61 0 15 ((rI μ 61 0 15) + ((rI μ 61 0 7) * (rI μ 61 0 4)))) 66 0 (ix v1) (imx 0 (((rI (wI μ 61 0 15 ((rI μ 61 0 15) + ((rI μ 61 0 7) * (rI μ 61 0 4)))) 61 0 (ix (28 + v1))) + ((rI μ 61 0 7) * (rI μ 61 0 4))) - (rI (wI μ 61 0 15 ((rI μ 61 0 15) + ((rI μ 61 0 7) * (rI μ 61 0 4)))) 61 0 (ix (16 + v1)))))) 66 0 (ix v1))))) (pc' := 96) [(.aload_n 0, 0, 0, 0, 0), (.getfield 35, 12, 20, 0, 0), (.bipush 13, 0, 0, 13, 0), (.dup2, 0, 0, 0, 0)] (by decide +kernel) rfl rfl ?_
      refine sC_ial (n := 1740) (j := 13) (by decide +kernel) (by decide +kernel) rfl rfl (by decide +kernel) ?_
      refine sBk (lo' := [(2, vi ((rI μ 61 0 7) * (rI μ 61 0 4))), (0, vr 13 0), (1, vi v1)]) (st' := [vi v1, vr 66 0, vi (rI (wI (wI (wI μ 61 0 15 ((rI μ 61 0 15) + ((rI μ 61 0 7) * (rI μ 61 0 4)))) 66 0 (ix v1) (imx 0 (((rI (wI μ 61 0 15 ((rI μ 61 0 15) + ((rI μ 61 0 7) * (rI μ 61 0 4)))) 61 0 (ix (28 + v1))) + ((rI μ 61 0 7) * (rI μ 61 0 4))) - (rI (wI μ 61 0 15 ((rI μ 61 0 15) + ((rI μ 61 0 7) * (rI μ 61 0 4)))) 61 0 (ix (16 + v1)))))) 61 0 (ix (28 + v1)) ((rI (wI μ 61 0 15 ((rI μ 61 0 15) + ((rI μ 61 0 7) * (rI μ 61 0 4)))) 61 0 (ix (28 + v1))) + (((rI μ 61 0 7) * (rI μ 61 0 4)) - (rI (wI (wI μ 61 0 15 ((rI μ 61 0 15) + ((rI μ 61 0 7) * (rI μ 61 0 4)))) 66 0 (ix v1) (imx 0 (((rI (wI μ 61 0 15 ((rI μ 61 0 15) + ((rI μ 61 0 7) * (rI μ 61 0 4)))) 61 0 (ix (28 + v1))) + ((rI μ 61 0 7) * (rI μ 61 0 4))) - (rI (wI μ 61 0 15 ((rI μ 61 0 15) + ((rI μ 61 0 7) * (rI μ 61 0 4)))) 61 0 (ix (16 + v1)))))) 66 0 (ix v1))))) 61 0 13), vi 13, vr 61 0]) (μ' := wI (wI (wI μ 61 0 15 ((rI μ 61 0 15) + ((rI μ 61 0 7) * (rI μ 61 0 4)))) 66 0 (ix v1) (imx 0 (((rI (wI μ 61 0 15 ((rI μ 61 0 15) + ((rI μ 61 0 7) * (rI μ 61 0 4)))) 61 0 (ix (28 + v1))) + ((rI μ 61 0 7) * (rI μ 61 0 4))) - (rI (wI μ 61 0 15 ((rI μ 61 0 15) + ((rI μ 61 0 7) * (rI μ 61 0 4)))) 61 0 (ix (16 + v1)))))) 61 0 (ix (28 + v1)) ((rI (wI μ 61 0 15 ((rI μ 61 0 15) + ((rI μ 61 0 7) * (rI μ 61 0 4)))) 61 0 (ix (28 + v1))) + (((rI μ 61 0 7) * (rI μ 61 0 4)) - (rI (wI (wI μ 61 0 15 ((rI μ 61 0 15) + ((rI μ 61 0 7) * (rI μ 61 0 4)))) 66 0 (ix v1) (imx 0 (((rI (wI μ 61 0 15 ((rI μ 61 0 15) + ((rI μ 61 0 7) * (rI μ 61 0 4)))) 61 0 (ix (28 + v1))) + ((rI μ 61 0 7) * (rI μ 61 0 4))) - (rI (wI μ 61 0 15 ((rI μ 61 0 15) + ((rI μ 61 0 7) * (rI μ 61 0 4)))) 61 0 (ix (16 + v1)))))) 66 0 (ix v1))))) (pc' := 102) [(.aload_n 0, 0, 0, 0, 0), (.getfield 50, 12, 28, 0, 0), (.iload_n 1, 0, 0, 0, 0)] (by decide +kernel) rfl rfl ?_
      refine sS_ial oV rfl (n := 6) (j := (ix v1)) (by decide +kernel) rfl rfl rfl (fun _ => ?_)
      refine sBk (lo' := [(2, vi ((rI μ 61 0 7) * (rI μ 61 0 4))), (0, vr 13 0), (1, vi v1)]) (st' := [vi ((rI (wI (wI (wI μ 61 0 15 ((rI μ 61 0 15) + ((rI μ 61 0 7) * (rI μ 61 0 4)))) 66 0 (ix v1) (imx 0 (((rI (wI μ 61 0 15 ((rI μ 61 0 15) + ((rI μ 61 0 7) * (rI μ 61 0 4)))) 61 0 (ix (28 + v1))) + ((rI μ 61 0 7) * (rI μ 61 0 4))) - (rI (wI μ 61 0 15 ((rI μ 61 0 15) + ((rI μ 61 0 7) * (rI μ 61 0 4)))) 61 0 (ix (16 + v1)))))) 61 0 (ix (28 + v1)) ((rI (wI μ 61 0 15 ((rI μ 61 0 15) + ((rI μ 61 0 7) * (rI μ 61 0 4)))) 61 0 (ix (28 + v1))) + (((rI μ 61 0 7) * (rI μ 61 0 4)) - (rI (wI (wI μ 61 0 15 ((rI μ 61 0 15) + ((rI μ 61 0 7) * (rI μ 61 0 4)))) 66 0 (ix v1) (imx 0 (((rI (wI μ 61 0 15 ((rI μ 61 0 15) + ((rI μ 61 0 7) * (rI μ 61 0 4)))) 61 0 (ix (28 + v1))) + ((rI μ 61 0 7) * (rI μ 61 0 4))) - (rI (wI μ 61 0 15 ((rI μ 61 0 15) + ((rI μ 61 0 7) * (rI μ 61 0 4)))) 61 0 (ix (16 + v1)))))) 66 0 (ix v1))))) 61 0 13) + (rI (wI (wI μ 61 0 15 ((rI μ 61 0 15) + ((rI μ 61 0 7) * (rI μ 61 0 4)))) 66 0 (ix v1) (imx 0 (((rI (wI μ 61 0 15 ((rI μ 61 0 15) + ((rI μ 61 0 7) * (rI μ 61 0 4)))) 61 0 (ix (28 + v1))) + ((rI μ 61 0 7) * (rI μ 61 0 4))) - (rI (wI μ 61 0 15 ((rI μ 61 0 15) + ((rI μ 61 0 7) * (rI μ 61 0 4)))) 61 0 (ix (16 + v1)))))) 66 0 (ix v1))), vi 13, vr 61 0]) (μ' := wI (wI (wI μ 61 0 15 ((rI μ 61 0 15) + ((rI μ 61 0 7) * (rI μ 61 0 4)))) 66 0 (ix v1) (imx 0 (((rI (wI μ 61 0 15 ((rI μ 61 0 15) + ((rI μ 61 0 7) * (rI μ 61 0 4)))) 61 0 (ix (28 + v1))) + ((rI μ 61 0 7) * (rI μ 61 0 4))) - (rI (wI μ 61 0 15 ((rI μ 61 0 15) + ((rI μ 61 0 7) * (rI μ 61 0 4)))) 61 0 (ix (16 + v1)))))) 61 0 (ix (28 + v1)) ((rI (wI μ 61 0 15 ((rI μ 61 0 15) + ((rI μ 61 0 7) * (rI μ 61 0 4)))) 61 0 (ix (28 + v1))) + (((rI μ 61 0 7) * (rI μ 61 0 4)) - (rI (wI (wI μ 61 0 15 ((rI μ 61 0 15) + ((rI μ 61 0 7) * (rI μ 61 0 4)))) 66 0 (ix v1) (imx 0 (((rI (wI μ 61 0 15 ((rI μ 61 0 15) + ((rI μ 61 0 7) * (rI μ 61 0 4)))) 61 0 (ix (28 + v1))) + ((rI μ 61 0 7) * (rI μ 61 0 4))) - (rI (wI μ 61 0 15 ((rI μ 61 0 15) + ((rI μ 61 0 7) * (rI μ 61 0 4)))) 61 0 (ix (16 + v1)))))) 66 0 (ix v1))))) (pc' := 104) [(.iadd, 0, 0, 0, 0)] (by decide +kernel) rfl rfl ?_
      refine sC_ias (n := 1740) (j := 13) (by decide +kernel) (by decide +kernel) rfl rfl (by decide +kernel) ?_
      refine sBk (lo' := [(1, vi (v1 + 1)), (2, vi ((rI μ 61 0 7) * (rI μ 61 0 4))), (0, vr 13 0)]) (st' := []) (μ' := wI (wI (wI (wI μ 61 0 15 ((rI μ 61 0 15) + ((rI μ 61 0 7) * (rI μ 61 0 4)))) 66 0 (ix v1) (imx 0 (((rI (wI μ 61 0 15 ((rI μ 61 0 15) + ((rI μ 61 0 7) * (rI μ 61 0 4)))) 61 0 (ix (28 + v1))) + ((rI μ 61 0 7) * (rI μ 61 0 4))) - (rI (wI μ 61 0 15 ((rI μ 61 0 15) + ((rI μ 61 0 7) * (rI μ 61 0 4)))) 61 0 (ix (16 + v1)))))) 61 0 (ix (28 + v1)) ((rI (wI μ 61 0 15 ((rI μ 61 0 15) + ((rI μ 61 0 7) * (rI μ 61 0 4)))) 61 0 (ix (28 + v1))) + (((rI μ 61 0 7) * (rI μ 61 0 4)) - (rI (wI (wI μ 61 0 15 ((rI μ 61 0 15) + ((rI μ 61 0 7) * (rI μ 61 0 4)))) 66 0 (ix v1) (imx 0 (((rI (wI μ 61 0 15 ((rI μ 61 0 15) + ((rI μ 61 0 7) * (rI μ 61 0 4)))) 61 0 (ix (28 + v1))) + ((rI μ 61 0 7) * (rI μ 61 0 4))) - (rI (wI μ 61 0 15 ((rI μ 61 0 15) + ((rI μ 61 0 7) * (rI μ 61 0 4)))) 61 0 (ix (16 + v1)))))) 66 0 (ix v1))))) 61 0 13 ((rI (wI (wI (wI μ 61 0 15 ((rI μ 61 0 15) + ((rI μ 61 0 7) * (rI μ 61 0 4)))) 66 0 (ix v1) (imx 0 (((rI (wI μ 61 0 15 ((rI μ 61 0 15) + ((rI μ 61 0 7) * (rI μ 61 0 4)))) 61 0 (ix (28 + v1))) + ((rI μ 61 0 7) * (rI μ 61 0 4))) - (rI (wI μ 61 0 15 ((rI μ 61 0 15) + ((rI μ 61 0 7) * (rI μ 61 0 4)))) 61 0 (ix (16 + v1)))))) 61 0 (ix (28 + v1)) ((rI (wI μ 61 0 15 ((rI μ 61 0 15) + ((rI μ 61 0 7) * (rI μ 61 0 4)))) 61 0 (ix (28 + v1))) + (((rI μ 61 0 7) * (rI μ 61 0 4)) - (rI (wI (wI μ 61 0 15 ((rI μ 61 0 15) + ((rI μ 61 0 7) * (rI μ 61 0 4)))) 66 0 (ix v1) (imx 0 (((rI (wI μ 61 0 15 ((rI μ 61 0 15) + ((rI μ 61 0 7) * (rI μ 61 0 4)))) 61 0 (ix (28 + v1))) + ((rI μ 61 0 7) * (rI μ 61 0 4))) - (rI (wI μ 61 0 15 ((rI μ 61 0 15) + ((rI μ 61 0 7) * (rI μ 61 0 4)))) 61 0 (ix (16 + v1)))))) 66 0 (ix v1))))) 61 0 13) + (rI (wI (wI μ 61 0 15 ((rI μ 61 0 15) + ((rI μ 61 0 7) * (rI μ 61 0 4)))) 66 0 (ix v1) (imx 0 (((rI (wI μ 61 0 15 ((rI μ 61 0 15) + ((rI μ 61 0 7) * (rI μ 61 0 4)))) 61 0 (ix (28 + v1))) + ((rI μ 61 0 7) * (rI μ 61 0 4))) - (rI (wI μ 61 0 15 ((rI μ 61 0 15) + ((rI μ 61 0 7) * (rI μ 61 0 4)))) 61 0 (ix (16 + v1)))))) 66 0 (ix v1)))) (pc' := 108) [(.iinc 1 1, 0, 0, 1, 0)] (by decide +kernel) rfl rfl ?_
      refine sGt (off := (-106)) (tgt := 2) (by decide +kernel) (by decide) ?_
      refine sWk (lo' := [(0, vr 13 0), (1, vi (v1 + 1))]) [2, 0] rfl ?_
      exact ih (v1 + 1) (wI (wI (wI (wI μ 61 0 15 ((rI μ 61 0 15) + ((rI μ 61 0 7) * (rI μ 61 0 4)))) 66 0 (ix v1) (imx 0 (((rI (wI μ 61 0 15 ((rI μ 61 0 15) + ((rI μ 61 0 7) * (rI μ 61 0 4)))) 61 0 (ix (28 + v1))) + ((rI μ 61 0 7) * (rI μ 61 0 4))) - (rI (wI μ 61 0 15 ((rI μ 61 0 15) + ((rI μ 61 0 7) * (rI μ 61 0 4)))) 61 0 (ix (16 + v1)))))) 61 0 (ix (28 + v1)) ((rI (wI μ 61 0 15 ((rI μ 61 0 15) + ((rI μ 61 0 7) * (rI μ 61 0 4)))) 61 0 (ix (28 + v1))) + (((rI μ 61 0 7) * (rI μ 61 0 4)) - (rI (wI (wI μ 61 0 15 ((rI μ 61 0 15) + ((rI μ 61 0 7) * (rI μ 61 0 4)))) 66 0 (ix v1) (imx 0 (((rI (wI μ 61 0 15 ((rI μ 61 0 15) + ((rI μ 61 0 7) * (rI μ 61 0 4)))) 61 0 (ix (28 + v1))) + ((rI μ 61 0 7) * (rI μ 61 0 4))) - (rI (wI μ 61 0 15 ((rI μ 61 0 15) + ((rI μ 61 0 7) * (rI μ 61 0 4)))) 61 0 (ix (16 + v1)))))) 66 0 (ix v1))))) 61 0 13 ((rI (wI (wI (wI μ 61 0 15 ((rI μ 61 0 15) + ((rI μ 61 0 7) * (rI μ 61 0 4)))) 66 0 (ix v1) (imx 0 (((rI (wI μ 61 0 15 ((rI μ 61 0 15) + ((rI μ 61 0 7) * (rI μ 61 0 4)))) 61 0 (ix (28 + v1))) + ((rI μ 61 0 7) * (rI μ 61 0 4))) - (rI (wI μ 61 0 15 ((rI μ 61 0 15) + ((rI μ 61 0 7) * (rI μ 61 0 4)))) 61 0 (ix (16 + v1)))))) 61 0 (ix (28 + v1)) ((rI (wI μ 61 0 15 ((rI μ 61 0 15) + ((rI μ 61 0 7) * (rI μ 61 0 4)))) 61 0 (ix (28 + v1))) + (((rI μ 61 0 7) * (rI μ 61 0 4)) - (rI (wI (wI μ 61 0 15 ((rI μ 61 0 15) + ((rI μ 61 0 7) * (rI μ 61 0 4)))) 66 0 (ix v1) (imx 0 (((rI (wI μ 61 0 15 ((rI μ 61 0 15) + ((rI μ 61 0 7) * (rI μ 61 0 4)))) 61 0 (ix (28 + v1))) + ((rI μ 61 0 7) * (rI μ 61 0 4))) - (rI (wI μ 61 0 15 ((rI μ 61 0 15) + ((rI μ 61 0 7) * (rI μ 61 0 4)))) 61 0 (ix (16 + v1)))))) 66 0 (ix v1))))) 61 0 13) + (rI (wI (wI μ 61 0 15 ((rI μ 61 0 15) + ((rI μ 61 0 7) * (rI μ 61 0 4)))) 66 0 (ix v1) (imx 0 (((rI (wI μ 61 0 15 ((rI μ 61 0 15) + ((rI μ 61 0 7) * (rI μ 61 0 4)))) 61 0 (ix (28 + v1))) + ((rI μ 61 0 7) * (rI μ 61 0 4))) - (rI (wI μ 61 0 15 ((rI μ 61 0 15) + ((rI μ 61 0 7) * (rI μ 61 0 4)))) 61 0 (ix (16 + v1)))))) 66 0 (ix v1))))
def X12_rainsAndFloods (μ : sM) : Option sM :=
  X12_rainsAndFloods_L2 fuN 0 μ
theorem tX12_rainsAndFloods (μ : sM) : sMt yX12_rainsAndFloods cX12_rainsAndFloods 3 none 1 [vr 13 0] μ (oV (X12_rainsAndFloods μ)) := by
  refine sMt_of (own := 12) (bl := false) (by decide +kernel) rfl (Nat.le_of_ble_eq_true rfl) (fun r ρ h => ?_) ?_
  · obtain ⟨q, -, hq⟩ := Option.map_eq_some_iff.mp h
    cases hq
    exact rfl
  · unfold X12_rainsAndFloods
    show sOk 12 cX12_rainsAndFloods 3 1 false 0 [(0, vr 13 0)] [] μ _
    refine sBk (lo' := [(1, vi 0), (0, vr 13 0)]) (st' := []) (μ' := μ) (pc' := 2) [(.iconst 0, 0, 0, 0, 0), (.istore_n 1, 0, 0, 0, 0)] (by decide +kernel) rfl rfl ?_
    refine sWk (lo' := [(0, vr 13 0), (1, vi 0)]) [1, 0] rfl ?_
    exact X12_rainsAndFloods_L2_ok fuN 0 μ
/-! ClockRiverModel.slackNow -/
def X12_slackNow (a1 : Int32) (μ : sM) : Option (Int32 × sM) :=
  if a1 ≤ 0 then
    some ((rI μ 61 0 3), μ)
  else
    some ((((rI μ 61 0 3) + 1) / 2), μ)
theorem tX12_slackNow (a1 : Int32) (μ : sM) : sMt yX12_slackNow cX12_slackNow 2 (some .int) 1 [vr 13 0, vi a1] μ (oI (X12_slackNow a1 μ)) := by
  refine sMt_of (own := 12) (bl := false) (by decide +kernel) rfl (Nat.le_of_ble_eq_true rfl) (fun r ρ h => ?_) ?_
  · obtain ⟨q, -, hq⟩ := Option.map_eq_some_iff.mp h
    cases hq
    exact Or.inl rfl
  · unfold X12_slackNow
    show sOk 12 cX12_slackNow 2 1 false 0 [(0, vr 13 0), (1, vi a1)] [] μ _
    refine sBk (lo' := [(0, vr 13 0), (1, vi a1)]) (st' := [vi a1]) (μ' := μ) (pc' := 1) [(.iload_n 1, 0, 0, 0, 0)] (by decide +kernel) rfl rfl ?_
    refine sIf_le oI (off := 16) (tgt := 17) (by decide +kernel) (by decide) (fun _ => ?_) (fun _ => ?_)
    · refine sBk (lo' := [(0, vr 13 0), (1, vi a1)]) (st' := [vi 3, vr 61 0]) (μ' := μ) (pc' := 22) [(.aload_n 0, 0, 0, 0, 0), (.getfield 35, 12, 20, 0, 0), (.iconst 3, 0, 0, 3, 0)] (by decide +kernel) rfl rfl ?_
      refine sC_ial (n := 1740) (j := 3) (by decide +kernel) (by decide +kernel) rfl rfl (by decide +kernel) ?_
      exact sRi (by decide +kernel) (fun h => by cases h)
    · refine sBk (lo' := [(0, vr 13 0), (1, vi a1)]) (st' := [vi 3, vr 61 0]) (μ' := μ) (pc' := 9) [(.aload_n 0, 0, 0, 0, 0), (.getfield 35, 12, 20, 0, 0), (.iconst 3, 0, 0, 3, 0)] (by decide +kernel) rfl rfl ?_
      refine sC_ial (n := 1740) (j := 3) (by decide +kernel) (by decide +kernel) rfl rfl (by decide +kernel) ?_
      refine sBk (lo' := [(0, vr 13 0), (1, vi a1)]) (st' := [vi 2, vi ((rI μ 61 0 3) + 1)]) (μ' := μ) (pc' := 13) [(.iconst 1, 0, 0, 1, 0), (.iadd, 0, 0, 0, 0), (.iconst 2, 0, 0, 2, 0)] (by decide +kernel) rfl rfl ?_
      refine sC_idv (by decide +kernel) (by decide +kernel) ?_
      refine sGt (off := 9) (tgt := 23) (by decide +kernel) (by decide) ?_
      exact sRi (by decide +kernel) (fun h => by cases h)
/-! ClockRiverModel.slackened -/
def X12_slackened (a0 : Int32) (a1 : Int32) (μ : sM) : Option (Int32 × sM) :=
  if a0 ≤ 0 then
    some ((imn 0 (a0 + a1)), μ)
  else
    some ((imx 0 (a0 - a1)), μ)
theorem tX12_slackened (a0 : Int32) (a1 : Int32) (μ : sM) : sMt yX12_slackened cX12_slackened 2 (some .int) 1 [vi a0, vi a1] μ (oI (X12_slackened a0 a1 μ)) := by
  refine sMt_of (own := 12) (bl := false) (by decide +kernel) rfl (Nat.le_of_ble_eq_true rfl) (fun r ρ h => ?_) ?_
  · obtain ⟨q, -, hq⟩ := Option.map_eq_some_iff.mp h
    cases hq
    exact Or.inl rfl
  · unfold X12_slackened
    show sOk 12 cX12_slackened 2 1 false 0 [(0, vi a0), (1, vi a1)] [] μ _
    refine sBk (lo' := [(0, vi a0), (1, vi a1)]) (st' := [vi a0]) (μ' := μ) (pc' := 1) [(.iload_n 0, 0, 0, 0, 0)] (by decide +kernel) rfl rfl ?_
    refine sIf_le oI (off := 13) (tgt := 14) (by decide +kernel) (by decide) (fun _ => ?_) (fun _ => ?_)
    · refine sBk (lo' := [(0, vi a0), (1, vi a1)]) (st' := [vi (a0 + a1), vi 0]) (μ' := μ) (pc' := 18) [(.iconst 0, 0, 0, 0, 0), (.iload_n 0, 0, 0, 0, 0), (.iload_n 1, 0, 0, 0, 0), (.iadd, 0, 0, 0, 0)] (by decide +kernel) rfl rfl ?_
      refine sMin (idx := 336) (p1 := 1911) (by decide +kernel) (by decide) (Nat.le_of_ble_eq_true rfl) ?_
      exact sRi (by decide +kernel) (fun h => by cases h)
    · refine sBk (lo' := [(0, vi a0), (1, vi a1)]) (st' := [vi (a0 - a1), vi 0]) (μ' := μ) (pc' := 8) [(.iconst 0, 0, 0, 0, 0), (.iload_n 0, 0, 0, 0, 0), (.iload_n 1, 0, 0, 0, 0), (.isub, 0, 0, 0, 0)] (by decide +kernel) rfl rfl ?_
      refine sMax (idx := 256) (p1 := 1835) (by decide +kernel) (by decide) (Nat.le_of_ble_eq_true rfl) ?_
      refine sGt (off := 10) (tgt := 21) (by decide +kernel) (by decide) ?_
      exact sRi (by decide +kernel) (fun h => by cases h)
/-! ClockRiverModel.goesHour -/
def X12_goesHour_J113 (k58 : Int32 → Int32 → sM → Option (Int32 × sM)) (v1 : Int32) (v2 : Int32) (μ : sM) : Option (Int32 × sM) :=
  k58 v1 (v2 + 1) μ
theorem X12_goesHour_J113_ok {k58 : Int32 → Int32 → sM → Option (Int32 × sM)} (hk58 : ∀ (v1 : Int32) (v2 : Int32) (μ : sM), sOk 12 cX12_goesHour 3 2 false 58 [(0, vr 13 0), (1, vi v1), (2, vi v2)] [] μ (oI (k58 v1 v2 μ))) (v1 : Int32) (v2 : Int32) (μ : sM) : sOk 12 cX12_goesHour 3 2 false 113 [(0, vr 13 0), (1, vi v1), (2, vi v2)] [] μ (oI (X12_goesHour_J113 k58 v1 v2 μ)) := by
  unfold X12_goesHour_J113
  refine sBk (lo' := [(2, vi (v2 + 1)), (0, vr 13 0), (1, vi v1)]) (st' := []) (μ' := μ) (pc' := 116) [(.iinc 2 1, 0, 0, 1, 0)] (by decide +kernel) rfl rfl ?_
  refine sGt (off := (-58)) (tgt := 58) (by decide +kernel) (by decide) ?_
  refine sWk (lo' := [(0, vr 13 0), (1, vi v1), (2, vi (v2 + 1))]) [1, 2, 0] rfl ?_
  exact hk58 v1 (v2 + 1) μ
def X12_goesHour_L58 : Nat → Int32 → Int32 → sM → Option (Int32 × sM)
  | 0, _, _, _ => none
  | n + 1, v1, v2, μ =>
    if (rI μ 61 0 1) ≤ v2 then
      bI (X12_slackNow (rI μ 61 0 8) μ) fun x1 μ2 =>
        bI (X12_slackened (rI μ 61 0 9) x1 μ2) fun x3 μ4 =>
          some (v1, wI (wI (wI μ4 61 0 9 x3) 61 0 8 (imx 0 ((rI μ4 61 0 8) - 1))) 61 0 6 ((rI μ4 61 0 6) + 1))
    else
      if inb (34 + v2) 1740 = true then
        if inb (rI μ 61 0 (ix (34 + v2))) 6 = true then
          if inb (40 + v2) 1740 = true then
            if (rI μ 61 0 (ix (40 + v2))) ≤ (rI μ 65 0 (ix (rI μ 61 0 (ix (34 + v2))))) then
              if inb (46 + v2) 1740 = true then
                if inb (46 + v2) 1740 = true then
                  X12_goesHour_J113 (X12_goesHour_L58 n) (v1 + 1) v2 (wI μ 61 0 (ix (46 + v2)) ((rI μ 61 0 (ix (46 + v2))) + 1))
                else none
              else none
            else
              X12_goesHour_J113 (X12_goesHour_L58 n) v1 v2 μ
          else none
        else none
      else none
theorem X12_goesHour_L58_ok : ∀ (n : Nat) (v1 : Int32) (v2 : Int32) (μ : sM), sOk 12 cX12_goesHour 3 2 false 58 [(0, vr 13 0), (1, vi v1), (2, vi v2)] [] μ (oI (X12_goesHour_L58 n v1 v2 μ)) := by
  intro n
  induction n with
  | zero =>
    intros
    exact sNo
  | succ n ih =>
    intro v1 v2 μ
    unfold X12_goesHour_L58
    refine sBk (lo' := [(0, vr 13 0), (1, vi v1), (2, vi v2)]) (st' := [vi 1, vr 61 0, vi v2]) (μ' := μ) (pc' := 64) [(.iload_n 2, 0, 0, 0, 0), (.aload_n 0, 0, 0, 0, 0), (.getfield 35, 12, 20, 0, 0), (.iconst 1, 0, 0, 1, 0)] (by decide +kernel) rfl rfl ?_
    refine sC_ial (n := 1740) (j := 1) (by decide +kernel) (by decide +kernel) rfl rfl (by decide +kernel) ?_
    refine sIc_ge oI (off := 54) (tgt := 119) (by decide +kernel) (by decide) (fun _ => ?_) (fun _ => ?_)
    · refine sBk (lo' := [(0, vr 13 0), (1, vi v1), (2, vi v2)]) (st' := [vi 9, vr 61 0, vi 9, vr 61 0]) (μ' := μ) (pc' := 131) [(.aload_n 0, 0, 0, 0, 0), (.getfield 35, 12, 20, 0, 0), (.bipush 9, 0, 0, 9, 0), (.aload_n 0, 0, 0, 0, 0), (.getfield 35, 12, 20, 0, 0), (.bipush 9, 0, 0, 9, 0)] (by decide +kernel) rfl rfl ?_
      refine sC_ial (n := 1740) (j := 9) (by decide +kernel) (by decide +kernel) rfl rfl (by decide +kernel) ?_
      refine sBk (lo' := [(0, vr 13 0), (1, vi v1), (2, vi v2)]) (st' := [vi 8, vr 61 0, vr 13 0, vi (rI μ 61 0 9), vi 9, vr 61 0]) (μ' := μ) (pc' := 139) [(.aload_n 0, 0, 0, 0, 0), (.aload_n 0, 0, 0, 0, 0), (.getfield 35, 12, 20, 0, 0), (.bipush 8, 0, 0, 8, 0)] (by decide +kernel) rfl rfl ?_
      refine sC_ial (n := 1740) (j := 8) (by decide +kernel) (by decide +kernel) rfl rfl (by decide +kernel) ?_
      refine sCvI oI rfl (ci := 12) (q := (13, 0)) (avs := [vi (rI μ 61 0 8)]) (rest := [vi (rI μ 61 0 9), vi 9, vr 61 0]) (tX12_slackNow (rI μ 61 0 8) μ) (by decide) (by decide +kernel) lk_12_374 yv_X12_slackNow rfl (by decide) rfl rfl rfl (Nat.le_of_ble_eq_true rfl) (fun x1 μ2 => ?_)
      refine sCsI oI rfl (avs := [vi (rI μ 61 0 9), vi x1]) (rest := [vi 9, vr 61 0]) (tX12_slackened (rI μ 61 0 9) x1 μ2) (by decide) (by decide +kernel) lk_12_377 ys_X12_slackened rfl rfl (Nat.le_of_ble_eq_true rfl) (fun x3 μ4 => ?_)
      refine sC_ias (n := 1740) (j := 9) (by decide +kernel) (by decide +kernel) rfl rfl (by decide +kernel) ?_
      refine sBk (lo' := [(0, vr 13 0), (1, vi v1), (2, vi v2)]) (st' := [vi 8, vr 61 0, vi 0, vi 8, vr 61 0]) (μ' := wI μ4 61 0 9 x3) (pc' := 160) [(.aload_n 0, 0, 0, 0, 0), (.getfield 35, 12, 20, 0, 0), (.bipush 8, 0, 0, 8, 0), (.iconst 0, 0, 0, 0, 0), (.aload_n 0, 0, 0, 0, 0), (.getfield 35, 12, 20, 0, 0), (.bipush 8, 0, 0, 8, 0)] (by decide +kernel) rfl rfl ?_
      refine sC_ial (n := 1740) (j := 8) (by decide +kernel) (by decide +kernel) rfl rfl (by decide +kernel) ?_
      refine sBk (lo' := [(0, vr 13 0), (1, vi v1), (2, vi v2)]) (st' := [vi ((rI μ4 61 0 8) - 1), vi 0, vi 8, vr 61 0]) (μ' := wI μ4 61 0 9 x3) (pc' := 163) [(.iconst 1, 0, 0, 1, 0), (.isub, 0, 0, 0, 0)] (by decide +kernel) rfl rfl ?_
      refine sMax (idx := 256) (p1 := 1835) (by decide +kernel) (by decide) (Nat.le_of_ble_eq_true rfl) ?_
      refine sC_ias (n := 1740) (j := 8) (by decide +kernel) (by decide +kernel) rfl rfl (by decide +kernel) ?_
      refine sBk (lo' := [(0, vr 13 0), (1, vi v1), (2, vi v2)]) (st' := [vi 6, vr 61 0, vi 6, vr 61 0]) (μ' := wI (wI μ4 61 0 9 x3) 61 0 8 (imx 0 ((rI μ4 61 0 8) - 1))) (pc' := 174) [(.aload_n 0, 0, 0, 0, 0), (.getfield 35, 12, 20, 0, 0), (.bipush 6, 0, 0, 6, 0), (.dup2, 0, 0, 0, 0)] (by decide +kernel) rfl rfl ?_
      refine sC_ial (n := 1740) (j := 6) (by decide +kernel) (by decide +kernel) rfl rfl (by decide +kernel) ?_
      refine sBk (lo' := [(0, vr 13 0), (1, vi v1), (2, vi v2)]) (st' := [vi ((rI μ4 61 0 6) + 1), vi 6, vr 61 0]) (μ' := wI (wI μ4 61 0 9 x3) 61 0 8 (imx 0 ((rI μ4 61 0 8) - 1))) (pc' := 177) [(.iconst 1, 0, 0, 1, 0), (.iadd, 0, 0, 0, 0)] (by decide +kernel) rfl rfl ?_
      refine sC_ias (n := 1740) (j := 6) (by decide +kernel) (by decide +kernel) rfl rfl (by decide +kernel) ?_
      refine sBk (lo' := [(0, vr 13 0), (1, vi v1), (2, vi v2)]) (st' := [vi v1]) (μ' := wI (wI (wI μ4 61 0 9 x3) 61 0 8 (imx 0 ((rI μ4 61 0 8) - 1))) 61 0 6 ((rI μ4 61 0 6) + 1)) (pc' := 179) [(.iload_n 1, 0, 0, 0, 0)] (by decide +kernel) rfl rfl ?_
      exact sRi (by decide +kernel) (fun h => by cases h)
    · refine sBk (lo' := [(0, vr 13 0), (1, vi v1), (2, vi v2)]) (st' := [vi (34 + v2), vr 61 0, vr 65 0]) (μ' := μ) (pc' := 80) [(.aload_n 0, 0, 0, 0, 0), (.getfield 47, 12, 27, 0, 0), (.aload_n 0, 0, 0, 0, 0), (.getfield 35, 12, 20, 0, 0), (.bipush 34, 0, 0, 34, 0), (.iload_n 2, 0, 0, 0, 0), (.iadd, 0, 0, 0, 0)] (by decide +kernel) rfl rfl ?_
      refine sS_ial oI rfl (n := 1740) (j := (ix (34 + v2))) (by decide +kernel) rfl rfl rfl (fun _ => ?_)
      refine sS_ial oI rfl (n := 6) (j := (ix (rI μ 61 0 (ix (34 + v2))))) (by decide +kernel) rfl rfl rfl (fun _ => ?_)
      refine sBk (lo' := [(0, vr 13 0), (1, vi v1), (2, vi v2)]) (st' := [vi (40 + v2), vr 61 0, vi (rI μ 65 0 (ix (rI μ 61 0 (ix (34 + v2)))))]) (μ' := μ) (pc' := 90) [(.aload_n 0, 0, 0, 0, 0), (.getfield 35, 12, 20, 0, 0), (.bipush 40, 0, 0, 40, 0), (.iload_n 2, 0, 0, 0, 0), (.iadd, 0, 0, 0, 0)] (by decide +kernel) rfl rfl ?_
      refine sS_ial oI rfl (n := 1740) (j := (ix (40 + v2))) (by decide +kernel) rfl rfl rfl (fun _ => ?_)
      refine sIc_ge oI (off := 6) (tgt := 97) (by decide +kernel) (by decide) (fun _ => ?_) (fun _ => ?_)
      · refine sBk (lo' := [(0, vr 13 0), (1, vi v1), (2, vi v2)]) (st' := [vi (46 + v2), vr 61 0, vi (46 + v2), vr 61 0]) (μ' := μ) (pc' := 106) [(.aload_n 0, 0, 0, 0, 0), (.getfield 35, 12, 20, 0, 0), (.bipush 46, 0, 0, 46, 0), (.iload_n 2, 0, 0, 0, 0), (.iadd, 0, 0, 0, 0), (.dup2, 0, 0, 0, 0)] (by decide +kernel) rfl rfl ?_
        refine sS_ial oI rfl (n := 1740) (j := (ix (46 + v2))) (by decide +kernel) rfl rfl rfl (fun _ => ?_)
        refine sBk (lo' := [(0, vr 13 0), (1, vi v1), (2, vi v2)]) (st' := [vi ((rI μ 61 0 (ix (46 + v2))) + 1), vi (46 + v2), vr 61 0]) (μ' := μ) (pc' := 109) [(.iconst 1, 0, 0, 1, 0), (.iadd, 0, 0, 0, 0)] (by decide +kernel) rfl rfl ?_
        refine sS_ias oI rfl (n := 1740) (j := (ix (46 + v2))) (by decide +kernel) rfl rfl rfl (fun _ => ?_)
        refine sBk (lo' := [(1, vi (v1 + 1)), (0, vr 13 0), (2, vi v2)]) (st' := []) (μ' := wI μ 61 0 (ix (46 + v2)) ((rI μ 61 0 (ix (46 + v2))) + 1)) (pc' := 113) [(.iinc 1 1, 0, 0, 1, 0)] (by decide +kernel) rfl rfl ?_
        refine sWk (lo' := [(0, vr 13 0), (1, vi (v1 + 1)), (2, vi v2)]) [1, 0, 2] rfl ?_
        exact X12_goesHour_J113_ok ih (v1 + 1) v2 (wI μ 61 0 (ix (46 + v2)) ((rI μ 61 0 (ix (46 + v2))) + 1))
      · refine sGt (off := 19) (tgt := 113) (by decide +kernel) (by decide) ?_
        exact X12_goesHour_J113_ok ih v1 v2 μ
def X12_goesHour_J50 (μ : sM) : Option (Int32 × sM) :=
  bV (X12_rainsAndFloods μ) fun μ2 =>
    X12_goesHour_L58 fuN 0 0 μ2
theorem X12_goesHour_J50_ok (μ : sM) : sOk 12 cX12_goesHour 3 2 false 50 [(0, vr 13 0)] [] μ (oI (X12_goesHour_J50 μ)) := by
  unfold X12_goesHour_J50
  refine sBk (lo' := [(0, vr 13 0)]) (st' := [vr 13 0]) (μ' := μ) (pc' := 51) [(.aload_n 0, 0, 0, 0, 0)] (by decide +kernel) rfl rfl ?_
  refine sCvV oI rfl (ci := 12) (q := (13, 0)) (avs := []) (rest := []) (tX12_rainsAndFloods μ) (by decide) (by decide +kernel) lk_12_371 yv_X12_rainsAndFloods rfl (by decide) rfl rfl rfl (Nat.le_of_ble_eq_true rfl) (fun μ2 => ?_)
  refine sBk (lo' := [(2, vi 0), (1, vi 0), (0, vr 13 0)]) (st' := []) (μ' := μ2) (pc' := 58) [(.iconst 0, 0, 0, 0, 0), (.istore_n 1, 0, 0, 0, 0), (.iconst 0, 0, 0, 0, 0), (.istore_n 2, 0, 0, 0, 0)] (by decide +kernel) rfl rfl ?_
  refine sWk (lo' := [(0, vr 13 0), (1, vi 0), (2, vi 0)]) [2, 1, 0] rfl ?_
  exact X12_goesHour_L58_ok fuN 0 0 μ2
def X12_goesHour_L2 : Nat → Int32 → sM → Option (Int32 × sM)
  | 0, _, _ => none
  | n + 1, v1, μ =>
    if (rI μ 61 0 0) ≤ v1 then
      if (rI μ 61 0 9) < 0 then
        bV (X12_flowsUp μ) fun μ2 =>
          X12_goesHour_J50 μ2
      else
        bV (X12_flowsDown μ) fun μ4 =>
          X12_goesHour_J50 μ4
    else
      bI (X12_passOf v1 μ) fun x5 μ6 =>
        if inb v1 6 = true then
          X12_goesHour_L2 n (v1 + 1) (wI μ6 65 0 (ix v1) x5)
        else none
theorem X12_goesHour_L2_ok : ∀ (n : Nat) (v1 : Int32) (μ : sM), sOk 12 cX12_goesHour 3 2 false 2 [(0, vr 13 0), (1, vi v1)] [] μ (oI (X12_goesHour_L2 n v1 μ)) := by
  intro n
  induction n with
  | zero =>
    intros
    exact sNo
  | succ n ih =>
    intro v1 μ
    unfold X12_goesHour_L2
    refine sBk (lo' := [(0, vr 13 0), (1, vi v1)]) (st' := [vi 0, vr 61 0, vi v1]) (μ' := μ) (pc' := 8) [(.iload_n 1, 0, 0, 0, 0), (.aload_n 0, 0, 0, 0, 0), (.getfield 35, 12, 20, 0, 0), (.iconst 0, 0, 0, 0, 0)] (by decide +kernel) rfl rfl ?_
    refine sC_ial (n := 1740) (j := 0) (by decide +kernel) (by decide +kernel) rfl rfl (by decide +kernel) ?_
    refine sIc_ge oI (off := 20) (tgt := 29) (by decide +kernel) (by decide) (fun _ => ?_) (fun _ => ?_)
    · refine sBk (lo' := [(0, vr 13 0), (1, vi v1)]) (st' := [vi 9, vr 61 0]) (μ' := μ) (pc' := 35) [(.aload_n 0, 0, 0, 0, 0), (.getfield 35, 12, 20, 0, 0), (.bipush 9, 0, 0, 9, 0)] (by decide +kernel) rfl rfl ?_
      refine sC_ial (n := 1740) (j := 9) (by decide +kernel) (by decide +kernel) rfl rfl (by decide +kernel) ?_
      refine sIf_lt oI (off := 10) (tgt := 46) (by decide +kernel) (by decide) (fun _ => ?_) (fun _ => ?_)
      · refine sBk (lo' := [(0, vr 13 0), (1, vi v1)]) (st' := [vr 13 0]) (μ' := μ) (pc' := 47) [(.aload_n 0, 0, 0, 0, 0)] (by decide +kernel) rfl rfl ?_
        refine sCvV oI rfl (ci := 12) (q := (13, 0)) (avs := []) (rest := []) (tX12_flowsUp μ) (by decide) (by decide +kernel) lk_12_368 yv_X12_flowsUp rfl (by decide) rfl rfl rfl (Nat.le_of_ble_eq_true rfl) (fun μ2 => ?_)
        refine sWk (lo' := [(0, vr 13 0)]) [0] rfl ?_
        exact X12_goesHour_J50_ok μ2
      · refine sBk (lo' := [(0, vr 13 0), (1, vi v1)]) (st' := [vr 13 0]) (μ' := μ) (pc' := 40) [(.aload_n 0, 0, 0, 0, 0)] (by decide +kernel) rfl rfl ?_
        refine sCvV oI rfl (ci := 12) (q := (13, 0)) (avs := []) (rest := []) (tX12_flowsDown μ) (by decide) (by decide +kernel) lk_12_365 yv_X12_flowsDown rfl (by decide) rfl rfl rfl (Nat.le_of_ble_eq_true rfl) (fun μ4 => ?_)
        refine sGt (off := 7) (tgt := 50) (by decide +kernel) (by decide) ?_
        refine sWk (lo' := [(0, vr 13 0)]) [0] rfl ?_
        exact X12_goesHour_J50_ok μ4
    · refine sBk (lo' := [(0, vr 13 0), (1, vi v1)]) (st' := [vi v1, vr 13 0, vi v1, vr 65 0]) (μ' := μ) (pc' := 19) [(.aload_n 0, 0, 0, 0, 0), (.getfield 47, 12, 27, 0, 0), (.iload_n 1, 0, 0, 0, 0), (.aload_n 0, 0, 0, 0, 0), (.iload_n 1, 0, 0, 0, 0)] (by decide +kernel) rfl rfl ?_
      refine sCvI oI rfl (ci := 12) (q := (13, 0)) (avs := [vi v1]) (rest := [vi v1, vr 65 0]) (tX12_passOf v1 μ) (by decide) (by decide +kernel) lk_12_344 yv_X12_passOf rfl (by decide) rfl rfl rfl (Nat.le_of_ble_eq_true rfl) (fun x5 μ6 => ?_)
      refine sS_ias oI rfl (n := 6) (j := (ix v1)) (by decide +kernel) rfl rfl rfl (fun _ => ?_)
      refine sBk (lo' := [(1, vi (v1 + 1)), (0, vr 13 0)]) (st' := []) (μ' := wI μ6 65 0 (ix v1) x5) (pc' := 26) [(.iinc 1 1, 0, 0, 1, 0)] (by decide +kernel) rfl rfl ?_
      refine sGt (off := (-24)) (tgt := 2) (by decide +kernel) (by decide) ?_
      refine sWk (lo' := [(0, vr 13 0), (1, vi (v1 + 1))]) [1, 0] rfl ?_
      exact ih (v1 + 1) (wI μ6 65 0 (ix v1) x5)
def X12_goesHour (μ : sM) : Option (Int32 × sM) :=
  X12_goesHour_L2 fuN 0 μ
theorem tX12_goesHour (μ : sM) : sMt yX12_goesHour cX12_goesHour 3 (some .int) 2 [vr 13 0] μ (oI (X12_goesHour μ)) := by
  refine sMt_of (own := 12) (bl := false) (by decide +kernel) rfl (Nat.le_of_ble_eq_true rfl) (fun r ρ h => ?_) ?_
  · obtain ⟨q, -, hq⟩ := Option.map_eq_some_iff.mp h
    cases hq
    exact Or.inl rfl
  · unfold X12_goesHour
    show sOk 12 cX12_goesHour 3 2 false 0 [(0, vr 13 0)] [] μ _
    refine sBk (lo' := [(1, vi 0), (0, vr 13 0)]) (st' := []) (μ' := μ) (pc' := 2) [(.iconst 0, 0, 0, 0, 0), (.istore_n 1, 0, 0, 0, 0)] (by decide +kernel) rfl rfl ?_
    refine sWk (lo' := [(0, vr 13 0), (1, vi 0)]) [1, 0] rfl ?_
    exact X12_goesHour_L2_ok fuN 0 μ
/-! ClockRiverModel.hour -/
def X12_hour_L54 : Nat → Int32 → Int32 → Int32 → sM → Option (Int32 × sM)
  | 0, _, _, _, _ => none
  | n + 1, v1, v2, v3, μ =>
    if v1 ≤ v3 then
      some (v2, μ)
    else
      bI (X12_goesHour μ) fun x1 μ2 =>
        X12_hour_L54 n v1 (v2 + x1) (v3 + 1) μ2
theorem X12_hour_L54_ok : ∀ (n : Nat) (v1 : Int32) (v2 : Int32) (v3 : Int32) (μ : sM), sOk 12 cX12_hour 4 3 false 54 [(0, vr 13 0), (1, vi v1), (2, vi v2), (3, vi v3)] [] μ (oI (X12_hour_L54 n v1 v2 v3 μ)) := by
  intro n
  induction n with
  | zero =>
    intros
    exact sNo
  | succ n ih =>
    intro v1 v2 v3 μ
    unfold X12_hour_L54
    refine sBk (lo' := [(0, vr 13 0), (1, vi v1), (2, vi v2), (3, vi v3)]) (st' := [vi v1, vi v3]) (μ' := μ) (pc' := 56) [(.iload_n 3, 0, 0, 0, 0), (.iload_n 1, 0, 0, 0, 0)] (by decide +kernel) rfl rfl ?_
    refine sIc_ge oI (off := 16) (tgt := 72) (by decide +kernel) (by decide) (fun _ => ?_) (fun _ => ?_)
    · refine sBk (lo' := [(0, vr 13 0), (1, vi v1), (2, vi v2), (3, vi v3)]) (st' := [vi v2]) (μ' := μ) (pc' := 73) [(.iload_n 2, 0, 0, 0, 0)] (by decide +kernel) rfl rfl ?_
      exact sRi (by decide +kernel) (fun h => by cases h)
    · refine sBk (lo' := [(0, vr 13 0), (1, vi v1), (2, vi v2), (3, vi v3)]) (st' := [vr 13 0, vi v2]) (μ' := μ) (pc' := 61) [(.iload_n 2, 0, 0, 0, 0), (.aload_n 0, 0, 0, 0, 0)] (by decide +kernel) rfl rfl ?_
      refine sCvI oI rfl (ci := 12) (q := (13, 0)) (avs := []) (rest := [vi v2]) (tX12_goesHour μ) (by decide) (by decide +kernel) lk_12_382 yv_X12_goesHour rfl (by decide) rfl rfl rfl (Nat.le_of_ble_eq_true rfl) (fun x1 μ2 => ?_)
      refine sBk (lo' := [(3, vi (v3 + 1)), (2, vi (v2 + x1)), (0, vr 13 0), (1, vi v1)]) (st' := []) (μ' := μ2) (pc' := 69) [(.iadd, 0, 0, 0, 0), (.istore_n 2, 0, 0, 0, 0), (.iinc 3 1, 0, 0, 1, 0)] (by decide +kernel) rfl rfl ?_
      refine sGt (off := (-15)) (tgt := 54) (by decide +kernel) (by decide) ?_
      refine sWk (lo' := [(0, vr 13 0), (1, vi v1), (2, vi (v2 + x1)), (3, vi (v3 + 1))]) [2, 3, 1, 0] rfl ?_
      exact ih v1 (v2 + x1) (v3 + 1) μ2
def X12_hour (a1 : Int32) (μ : sM) : Option (Int32 × sM) :=
  bI (X12_isIn (Int32.toInt64 a1) 1 168 (wI (wI μ 13 0 1 0) 13 0 0 0)) fun x1 μ2 =>
    if x1 = 0 then
      bI (X12_refuse 5 μ2) fun x5 μ6 =>
        some (x5, μ6)
    else
      if ((rI μ2 61 0 6) + a1) ≤ 9999 then
        X12_hour_L54 fuN a1 0 0 μ2
      else
        bI (X12_refuse 7 μ2) fun x3 μ4 =>
          some (x3, μ4)
theorem tX12_hour (a1 : Int32) (μ : sM) : sMt yX12_hour cX12_hour 4 (some .int) 3 [vr 13 0, vi a1] μ (oI (X12_hour a1 μ)) := by
  refine sMt_of (own := 12) (bl := false) (by decide +kernel) rfl (Nat.le_of_ble_eq_true rfl) (fun r ρ h => ?_) ?_
  · obtain ⟨q, -, hq⟩ := Option.map_eq_some_iff.mp h
    cases hq
    exact Or.inl rfl
  · unfold X12_hour
    show sOk 12 cX12_hour 4 3 false 0 [(0, vr 13 0), (1, vi a1)] [] μ _
    refine sBk (lo' := [(0, vr 13 0), (1, vi a1)]) (st' := [vl 168, vl 1, vl (Int32.toInt64 a1)]) (μ' := wI (wI μ 13 0 1 0) 13 0 0 0) (pc' := 16) [(.aload_n 0, 0, 0, 0, 0), (.iconst 0, 0, 0, 0, 0), (.putfield 72, 12, 1, 0, 0), (.aload_n 0, 0, 0, 0, 0), (.iconst 0, 0, 0, 0, 0), (.putfield 75, 12, 0, 0, 0), (.iload_n 1, 0, 0, 0, 0), (.i2l, 0, 0, 0, 0), (.lconst 1, 0, 0, 0, 1), (.ldc2_w 380, 0, 0, 0, 168)] (by decide +kernel) rfl rfl ?_
    refine sCsI oI rfl (avs := [vl (Int32.toInt64 a1), vl 1, vl 168]) (rest := []) (tX12_isIn (Int32.toInt64 a1) 1 168 (wI (wI μ 13 0 1 0) 13 0 0 0)) (by decide) (by decide +kernel) lk_12_107 ys_X12_isIn rfl rfl (Nat.le_of_ble_eq_true rfl) (fun x1 μ2 => ?_)
    refine sIf_ne oI (off := 9) (tgt := 28) (by decide +kernel) (by decide) (fun _ => ?_) (fun _ => ?_)
    · refine sBk (lo' := [(0, vr 13 0), (1, vi a1)]) (st' := [vi 6, vr 61 0]) (μ' := μ2) (pc' := 34) [(.aload_n 0, 0, 0, 0, 0), (.getfield 35, 12, 20, 0, 0), (.bipush 6, 0, 0, 6, 0)] (by decide +kernel) rfl rfl ?_
      refine sC_ial (n := 1740) (j := 6) (by decide +kernel) (by decide +kernel) rfl rfl (by decide +kernel) ?_
      refine sBk (lo' := [(0, vr 13 0), (1, vi a1)]) (st' := [vi 9999, vi ((rI μ2 61 0 6) + a1)]) (μ' := μ2) (pc' := 40) [(.iload_n 1, 0, 0, 0, 0), (.iadd, 0, 0, 0, 0), (.sipush 9999, 0, 0, 9999, 0)] (by decide +kernel) rfl rfl ?_
      refine sIc_le oI (off := 10) (tgt := 50) (by decide +kernel) (by decide) (fun _ => ?_) (fun _ => ?_)
      · refine sBk (lo' := [(3, vi 0), (2, vi 0), (0, vr 13 0), (1, vi a1)]) (st' := []) (μ' := μ2) (pc' := 54) [(.iconst 0, 0, 0, 0, 0), (.istore_n 2, 0, 0, 0, 0), (.iconst 0, 0, 0, 0, 0), (.istore_n 3, 0, 0, 0, 0)] (by decide +kernel) rfl rfl ?_
        refine sWk (lo' := [(0, vr 13 0), (1, vi a1), (2, vi 0), (3, vi 0)]) [2, 3, 1, 0] rfl ?_
        exact X12_hour_L54_ok fuN a1 0 0 μ2
      · refine sBk (lo' := [(0, vr 13 0), (1, vi a1)]) (st' := [vi 7, vr 13 0]) (μ' := μ2) (pc' := 46) [(.aload_n 0, 0, 0, 0, 0), (.bipush 7, 0, 0, 7, 0)] (by decide +kernel) rfl rfl ?_
        refine sCvI oI rfl (ci := 12) (q := (13, 0)) (avs := [vi 7]) (rest := []) (tX12_refuse 7 μ2) (by decide) (by decide +kernel) lk_12_325 yv_X12_refuse rfl (by decide) rfl rfl rfl (Nat.le_of_ble_eq_true rfl) (fun x3 μ4 => ?_)
        exact sRi (by decide +kernel) (fun h => by cases h)
    · refine sBk (lo' := [(0, vr 13 0), (1, vi a1)]) (st' := [vi 5, vr 13 0]) (μ' := μ2) (pc' := 24) [(.aload_n 0, 0, 0, 0, 0), (.iconst 5, 0, 0, 5, 0)] (by decide +kernel) rfl rfl ?_
      refine sCvI oI rfl (ci := 12) (q := (13, 0)) (avs := [vi 5]) (rest := []) (tX12_refuse 5 μ2) (by decide) (by decide +kernel) lk_12_325 yv_X12_refuse rfl (by decide) rfl rfl rfl (Nat.le_of_ble_eq_true rfl) (fun x5 μ6 => ?_)
      exact sRi (by decide +kernel) (fun h => by cases h)
/-! ClockRiverModel.isSeventh -/
def X12_isSeventh (μ : sM) : Option (Int32 × sM) :=
  bI (X12_day μ) fun x1 μ2 =>
    if (irm x1 7) = 6 then
      some (1, μ2)
    else
      some (0, μ2)
theorem tX12_isSeventh (μ : sM) : sMt yX12_isSeventh cX12_isSeventh 1 (some .boolean) 2 [vr 13 0] μ (oI (X12_isSeventh μ)) := by
  refine sMt_of (own := 12) (bl := true) (by decide +kernel) rfl (Nat.le_of_ble_eq_true rfl) (fun r ρ h => ?_) ?_
  · obtain ⟨q, -, hq⟩ := Option.map_eq_some_iff.mp h
    cases hq
    exact Or.inr ⟨rfl, rfl⟩
  · unfold X12_isSeventh
    show sOk 12 cX12_isSeventh 1 2 true 0 [(0, vr 13 0)] [] μ _
    refine sBk (lo' := [(0, vr 13 0)]) (st' := [vr 13 0]) (μ' := μ) (pc' := 1) [(.aload_n 0, 0, 0, 0, 0)] (by decide +kernel) rfl rfl ?_
    refine sCvI oI rfl (ci := 12) (q := (13, 0)) (avs := []) (rest := []) (tX12_day μ) (by decide) (by decide +kernel) lk_12_328 yv_X12_day rfl (by decide) rfl rfl rfl (Nat.le_of_ble_eq_true rfl) (fun x1 μ2 => ?_)
    refine sBk (lo' := [(0, vr 13 0)]) (st' := [vi 7, vi x1]) (μ' := μ2) (pc' := 6) [(.bipush 7, 0, 0, 7, 0)] (by decide +kernel) rfl rfl ?_
    refine sC_irm (by decide +kernel) (by decide +kernel) ?_
    refine sBk (lo' := [(0, vr 13 0)]) (st' := [vi 6, vi (irm x1 7)]) (μ' := μ2) (pc' := 9) [(.bipush 6, 0, 0, 6, 0)] (by decide +kernel) rfl rfl ?_
    refine sIc_ne oI (off := 7) (tgt := 16) (by decide +kernel) (by decide) (fun _ => ?_) (fun _ => ?_)
    · refine sBk (lo' := [(0, vr 13 0)]) (st' := [vi 0]) (μ' := μ2) (pc' := 17) [(.iconst 0, 0, 0, 0, 0)] (by decide +kernel) rfl rfl ?_
      exact sRi (by decide +kernel) (fun _ => Or.inl rfl)
    · refine sBk (lo' := [(0, vr 13 0)]) (st' := [vi 1]) (μ' := μ2) (pc' := 13) [(.iconst 1, 0, 0, 1, 0)] (by decide +kernel) rfl rfl ?_
      refine sGt (off := 4) (tgt := 17) (by decide +kernel) (by decide) ?_
      exact sRi (by decide +kernel) (fun _ => Or.inr rfl)
/-! ClockRiverModel.turnsBy -/
def X12_turnsBy (a1 : Int32) (μ : sM) : Option sM :=
  some (wI μ 61 0 9 (imx (-60) (imn 60 ((rI μ 61 0 9) + a1))))
theorem tX12_turnsBy (a1 : Int32) (μ : sM) : sMt yX12_turnsBy cX12_turnsBy 2 none 1 [vr 13 0, vi a1] μ (oV (X12_turnsBy a1 μ)) := by
  refine sMt_of (own := 12) (bl := false) (by decide +kernel) rfl (Nat.le_of_ble_eq_true rfl) (fun r ρ h => ?_) ?_
  · obtain ⟨q, -, hq⟩ := Option.map_eq_some_iff.mp h
    cases hq
    exact rfl
  · unfold X12_turnsBy
    show sOk 12 cX12_turnsBy 2 1 false 0 [(0, vr 13 0), (1, vi a1)] [] μ _
    refine sBk (lo' := [(0, vr 13 0), (1, vi a1)]) (st' := [vi 9, vr 61 0, vi 60, vi (-60), vi 9, vr 61 0]) (μ' := μ) (pc' := 16) [(.aload_n 0, 0, 0, 0, 0), (.getfield 35, 12, 20, 0, 0), (.bipush 9, 0, 0, 9, 0), (.bipush (-60), 0, 0, (-60), 0), (.bipush 60, 0, 0, 60, 0), (.aload_n 0, 0, 0, 0, 0), (.getfield 35, 12, 20, 0, 0), (.bipush 9, 0, 0, 9, 0)] (by decide +kernel) rfl rfl ?_
    refine sC_ial (n := 1740) (j := 9) (by decide +kernel) (by decide +kernel) rfl rfl (by decide +kernel) ?_
    refine sBk (lo' := [(0, vr 13 0), (1, vi a1)]) (st' := [vi ((rI μ 61 0 9) + a1), vi 60, vi (-60), vi 9, vr 61 0]) (μ' := μ) (pc' := 19) [(.iload_n 1, 0, 0, 0, 0), (.iadd, 0, 0, 0, 0)] (by decide +kernel) rfl rfl ?_
    refine sMin (idx := 336) (p1 := 1911) (by decide +kernel) (by decide) (Nat.le_of_ble_eq_true rfl) ?_
    refine sMax (idx := 256) (p1 := 1835) (by decide +kernel) (by decide) (Nat.le_of_ble_eq_true rfl) ?_
    refine sC_ias (n := 1740) (j := 9) (by decide +kernel) (by decide +kernel) rfl rfl (by decide +kernel) ?_
    exact sRv (by decide +kernel)
