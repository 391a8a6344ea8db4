theorem lk_9_110 : Cond.methodLink (kRn 9) 110 yX9_takeName ∈ sT := sT_in (n := 994) (by decide +kernel) rfl
theorem lk_9_114 : Cond.methodLink (kRn 9) 114 yX9_readTest ∈ sT := sT_in (n := 999) (by decide +kernel) rfl
theorem lk_9_131 : Cond.methodLink (kRn 9) 131 yX9_takeComparison ∈ sT := sT_in (n := 1003) (by decide +kernel) rfl
theorem lk_9_142 : Cond.methodLink (kRn 9) 142 yX6_takeWord ∈ sT := sT_in (n := 1008) (by decide +kernel) rfl
theorem lk_9_149 : Cond.methodLink (kRn 9) 149 yX4_placeOf ∈ sT := sT_in (n := 998) (by decide +kernel) rfl
theorem lk_9_161 : Cond.methodLink (kRn 9) 161 yX6_takeNumber ∈ sT := sT_in (n := 989) (by decide +kernel) rfl
theorem lk_9_34 : Cond.methodLink (kRn 9) 34 yX8_forget ∈ sT := sT_in (n := 961) (by decide +kernel) rfl
theorem lk_9_46 : Cond.methodLink (kRn 9) 46 yX9_beginEnd ∈ sT := sT_in (n := 962) (by decide +kernel) rfl
theorem lk_9_50 : Cond.methodLink (kRn 9) 50 yX9_beginStep ∈ sT := sT_in (n := 972) (by decide +kernel) rfl
theorem lk_9_53 : Cond.methodLink (kRn 9) 53 yX9_readRest ∈ sT := sT_in (n := 981) (by decide +kernel) rfl
theorem lk_9_56 : Cond.methodLink (kRn 9) 56 yX6_takeEnd ∈ sT := sT_in (n := 1009) (by decide +kernel) rfl
theorem lk_9_59 : Cond.methodLink (kRn 9) 59 yX6_failToStand ∈ sT := sT_in (n := 979) (by decide +kernel) rfl
theorem lk_9_62 : Cond.methodLink (kRn 9) 62 yX8_addRow ∈ sT := sT_in (n := 966) (by decide +kernel) rfl
theorem lk_9_72 : Cond.methodLink (kRn 9) 72 yX6_advance ∈ sT := sT_in (n := 971) (by decide +kernel) rfl
theorem lk_9_75 : Cond.methodLink (kRn 9) 75 yX9_isStep ∈ sT := sT_in (n := 976) (by decide +kernel) rfl
theorem lk_9_82 : Cond.methodLink (kRn 9) 82 yX6_fail ∈ sT := sT_in (n := 980) (by decide +kernel) rfl
theorem lk_9_88 : Cond.methodLink (kRn 9) 88 yX9_takeNumber ∈ sT := sT_in (n := 985) (by decide +kernel) rfl
theorem lk_9_92 : Cond.methodLink (kRn 9) 92 yX9_readWind ∈ sT := sT_in (n := 990) (by decide +kernel) rfl
theorem ys_X9_isStep : yS yX9_isStep cX9_isStep 1 (some .boolean) 1 := ⟨⟨sT_in (n := 978) (by decide +kernel) rfl, sT_in (n := 146) (by decide +kernel) rfl, by decide +kernel, by decide⟩, sT_in (n := 977) (by decide +kernel) rfl⟩
theorem yv_X8_addRow : yV yX8_addRow cX8_addRow 3 (some .int) 1 := ⟨⟨sT_in (n := 969) (by decide +kernel) rfl, sT_in (n := 142) (by decide +kernel) rfl, by decide +kernel, by decide⟩, sT_in (n := 967) (by decide +kernel) rfl, sT_in (n := 968) (by decide +kernel) rfl⟩
theorem yv_X8_forget : yV yX8_forget cX8_forget 1 none 0 := ⟨⟨sT_in (n := 948) (by decide +kernel) rfl, sT_in (n := 142) (by decide +kernel) rfl, by decide +kernel, by decide⟩, sT_in (n := 946) (by decide +kernel) rfl, sT_in (n := 947) (by decide +kernel) rfl⟩
theorem yv_X9_beginEnd : yV yX9_beginEnd cX9_beginEnd 2 (some .boolean) 0 := ⟨⟨sT_in (n := 965) (by decide +kernel) rfl, sT_in (n := 146) (by decide +kernel) rfl, by decide +kernel, by decide⟩, sT_in (n := 964) (by decide +kernel) rfl, sT_in (n := 16) (by decide +kernel) rfl⟩
theorem yv_X9_beginStep : yV yX9_beginStep cX9_beginStep 3 (some .boolean) 0 := ⟨⟨sT_in (n := 975) (by decide +kernel) rfl, sT_in (n := 146) (by decide +kernel) rfl, by decide +kernel, by decide⟩, sT_in (n := 974) (by decide +kernel) rfl, sT_in (n := 17) (by decide +kernel) rfl⟩
theorem yv_X9_readRest : yV yX9_readRest cX9_readRest 1 (some .boolean) 0 := ⟨⟨sT_in (n := 984) (by decide +kernel) rfl, sT_in (n := 146) (by decide +kernel) rfl, by decide +kernel, by decide⟩, sT_in (n := 983) (by decide +kernel) rfl, sT_in (n := 18) (by decide +kernel) rfl⟩
theorem yv_X9_readTest : yV yX9_readTest cX9_readTest 1 (some .boolean) 0 := ⟨⟨sT_in (n := 1002) (by decide +kernel) rfl, sT_in (n := 146) (by decide +kernel) rfl, by decide +kernel, by decide⟩, sT_in (n := 1001) (by decide +kernel) rfl, sT_in (n := 22) (by decide +kernel) rfl⟩
theorem yv_X9_readWind : yV yX9_readWind cX9_readWind 1 (some .boolean) 0 := ⟨⟨sT_in (n := 993) (by decide +kernel) rfl, sT_in (n := 146) (by decide +kernel) rfl, by decide +kernel, by decide⟩, sT_in (n := 992) (by decide +kernel) rfl, sT_in (n := 20) (by decide +kernel) rfl⟩
theorem yv_X9_takeComparison : yV yX9_takeComparison cX9_takeComparison 1 (some .boolean) 0 := ⟨⟨sT_in (n := 1006) (by decide +kernel) rfl, sT_in (n := 146) (by decide +kernel) rfl, by decide +kernel, by decide⟩, sT_in (n := 1005) (by decide +kernel) rfl, sT_in (n := 23) (by decide +kernel) rfl⟩
theorem yv_X9_takeName : yV yX9_takeName cX9_takeName 4 (some .boolean) 2 := ⟨⟨sT_in (n := 997) (by decide +kernel) rfl, sT_in (n := 146) (by decide +kernel) rfl, by decide +kernel, by decide⟩, sT_in (n := 996) (by decide +kernel) rfl, sT_in (n := 21) (by decide +kernel) rfl⟩
theorem yv_X9_takeNumber : yV yX9_takeNumber cX9_takeNumber 3 (some .boolean) 2 := ⟨⟨sT_in (n := 988) (by decide +kernel) rfl, sT_in (n := 146) (by decide +kernel) rfl, by decide +kernel, by decide⟩, sT_in (n := 987) (by decide +kernel) rfl, sT_in (n := 19) (by decide +kernel) rfl⟩
/-! ClockRiver$WeeksReader.beginEnd -/
def X9_beginEnd (μ : sM) : Option (Int32 × sM) :=
  if inb ((rI μ 10 0 4) - 1) 3 = true then
    bI (X8_addRow 4 25 (wI μ 10 0 4 ((rI μ 10 0 4) - 1))) fun x1 μ2 =>
      if inb x1 60 = true then
        if inb (rI μ 49 0 (ix ((rI μ 10 0 4) - 1))) 60 = true then
          if (rR μ2 10 0 1) = 1 then
            bV (X6_advance (wI (wI (wI μ2 10 0 3 x1) 48 4 (ix x1) (rI μ 49 0 (ix ((rI μ 10 0 4) - 1)))) 48 4 (ix (rI μ 49 0 (ix ((rI μ 10 0 4) - 1)))) x1)) fun μ5 =>
              some (1, μ5)
          else none
        else none
      else none
  else none
theorem tX9_beginEnd (μ : sM) : sMt yX9_beginEnd cX9_beginEnd 2 (some .boolean) 2 [vr 10 0] μ (oI (X9_beginEnd μ)) := by
  refine sMt_of (own := 9) (bl := true) (by decide +kernel) rfl (Nat.le_of_ble_eq_true rfl) (fun r ρ h => ?_) ?_
  · obtain ⟨q, -, hq⟩ := Option.map_eq_some_iff.mp h
    cases hq
    exact Or.inr ⟨rfl, rfl⟩
  · unfold X9_beginEnd
    show sOk 9 cX9_beginEnd 2 2 true 0 [(0, vr 10 0)] [] μ _
    refine sBk (lo' := [(0, vr 10 0)]) (st' := [vi ((rI μ 10 0 4) - 1), vr 49 0]) (μ' := wI μ 10 0 4 ((rI μ 10 0 4) - 1)) (pc' := 18) [(.aload_n 0, 0, 0, 0, 0), (.dup, 0, 0, 0, 0), (.getfield 30, 9, 4, 0, 0), (.iconst 1, 0, 0, 1, 0), (.isub, 0, 0, 0, 0), (.putfield 30, 9, 4, 0, 0), (.aload_n 0, 0, 0, 0, 0), (.getfield 18, 9, 5, 0, 0), (.aload_n 0, 0, 0, 0, 0), (.getfield 30, 9, 4, 0, 0)] (by decide +kernel) rfl rfl ?_
    refine sS_ial oI rfl (n := 3) (j := (ix ((rI μ 10 0 4) - 1))) (by decide +kernel) rfl rfl rfl (fun _ => ?_)
    refine sBk (lo' := [(1, vi (rI μ 49 0 (ix ((rI μ 10 0 4) - 1)))), (0, vr 10 0)]) (st' := [vi 25, vr 9 4, vr 10 0]) (μ' := wI μ 10 0 4 ((rI μ 10 0 4) - 1)) (pc' := 27) [(.istore_n 1, 0, 0, 0, 0), (.aload_n 0, 0, 0, 0, 0), (.aload_n 0, 0, 0, 0, 0), (.getfield 12, 9, 0, 0, 0), (.bipush 25, 0, 0, 25, 0)] (by decide +kernel) rfl rfl ?_
    refine sCvI oI rfl (ci := 8) (q := (9, 4)) (avs := [vi 25]) (rest := [vr 10 0]) (tX8_addRow 4 25 (wI μ 10 0 4 ((rI μ 10 0 4) - 1))) (by decide) (by decide +kernel) lk_9_62 yv_X8_addRow rfl (by decide) rfl rfl rfl (Nat.le_of_ble_eq_true rfl) (fun x1 μ2 => ?_)
    refine sBk (lo' := [(1, vi (rI μ 49 0 (ix ((rI μ 10 0 4) - 1)))), (0, vr 10 0)]) (st' := [vi (rI μ 49 0 (ix ((rI μ 10 0 4) - 1))), vi x1, vr 48 4]) (μ' := wI μ2 10 0 3 x1) (pc' := 45) [(.putfield 66, 9, 3, 0, 0), (.aload_n 0, 0, 0, 0, 0), (.getfield 12, 9, 0, 0, 0), (.getfield 69, 8, 8, 0, 0), (.aload_n 0, 0, 0, 0, 0), (.getfield 66, 9, 3, 0, 0), (.iload_n 1, 0, 0, 0, 0)] (by decide +kernel) rfl rfl ?_
    refine sS_ias oI rfl (n := 60) (j := (ix x1)) (by decide +kernel) rfl rfl rfl (fun _ => ?_)
    refine sBk (lo' := [(1, vi (rI μ 49 0 (ix ((rI μ 10 0 4) - 1)))), (0, vr 10 0)]) (st' := [vi x1, vi (rI μ 49 0 (ix ((rI μ 10 0 4) - 1))), vr 48 4]) (μ' := wI (wI μ2 10 0 3 x1) 48 4 (ix x1) (rI μ 49 0 (ix ((rI μ 10 0 4) - 1)))) (pc' := 58) [(.aload_n 0, 0, 0, 0, 0), (.getfield 12, 9, 0, 0, 0), (.getfield 69, 8, 8, 0, 0), (.iload_n 1, 0, 0, 0, 0), (.aload_n 0, 0, 0, 0, 0), (.getfield 66, 9, 3, 0, 0)] (by decide +kernel) rfl rfl ?_
    refine sS_ias oI rfl (n := 60) (j := (ix (rI μ 49 0 (ix ((rI μ 10 0 4) - 1))))) (by decide +kernel) rfl rfl rfl (fun _ => ?_)
    refine sBk (lo' := [(1, vi (rI μ 49 0 (ix ((rI μ 10 0 4) - 1)))), (0, vr 10 0)]) (st' := [vr 10 0]) (μ' := wI (wI (wI μ2 10 0 3 x1) 48 4 (ix x1) (rI μ 49 0 (ix ((rI μ 10 0 4) - 1)))) 48 4 (ix (rI μ 49 0 (ix ((rI μ 10 0 4) - 1)))) x1) (pc' := 60) [(.aload_n 0, 0, 0, 0, 0)] (by decide +kernel) rfl rfl ?_
    refine sCk oI rfl (fun h3 => ?_)
    refine sGr (idx := 22) (ci := 9) (sl := 1) (n := 0) (by decide +kernel) rfl rfl h3 ?_
    refine sCvV oI rfl (ci := 6) (q := (7, 0)) (avs := []) (rest := []) (tX6_advance (wI (wI (wI μ2 10 0 3 x1) 48 4 (ix x1) (rI μ 49 0 (ix ((rI μ 10 0 4) - 1)))) 48 4 (ix (rI μ 49 0 (ix ((rI μ 10 0 4) - 1)))) x1)) (by decide) (by decide +kernel) lk_9_72 yv_X6_advance rfl (by decide) rfl rfl rfl (Nat.le_of_ble_eq_true rfl) (fun μ5 => ?_)
    refine sBk (lo' := [(1, vi (rI μ 49 0 (ix ((rI μ 10 0 4) - 1)))), (0, vr 10 0)]) (st' := [vi 1]) (μ' := μ5) (pc' := 67) [(.iconst 1, 0, 0, 1, 0)] (by decide +kernel) rfl rfl ?_
    exact sRi (by decide +kernel) (fun _ => Or.inr rfl)
/-! ClockRiver$WeeksReader.isStep -/
def X9_isStep (a0 : Int32) (μ : sM) : Option (Int32 × sM) :=
  if a0 = 2 then
    some (1, μ)
  else if a0 = 6 then
    some (1, μ)
  else if a0 = 14 then
    some (1, μ)
  else if a0 = 15 then
    some (1, μ)
  else if a0 = 17 then
    some (1, μ)
  else if a0 = 18 then
    some (1, μ)
  else if a0 = 19 then
    some (1, μ)
  else if a0 = 20 then
    some (1, μ)
  else if a0 = 24 then
    some (1, μ)
  else if a0 = 26 then
    some (1, μ)
  else
    some (0, μ)
theorem tX9_isStep (a0 : Int32) (μ : sM) : sMt yX9_isStep cX9_isStep 1 (some .boolean) 1 [vi a0] μ (oI (X9_isStep a0 μ)) := by
  refine sMt_of (own := 9) (bl := true) (by decide +kernel) rfl (Nat.le_of_ble_eq_true rfl) (fun r ρ h => ?_) ?_
  · obtain ⟨q, -, hq⟩ := Option.map_eq_some_iff.mp h
    cases hq
    exact Or.inr ⟨rfl, rfl⟩
  · unfold X9_isStep
    show sOk 9 cX9_isStep 1 1 true 0 [(0, vi a0)] [] μ _
    refine sBk (lo' := [(0, vi a0)]) (st' := [vi a0]) (μ' := μ) (pc' := 1) [(.iload_n 0, 0, 0, 0, 0)] (by decide +kernel) rfl rfl ?_
    refine sTs (ps := [(2, 116), (6, 116), (14, 116), (15, 116), (17, 116), (18, 116), (19, 116), (20, 116), (24, 116), (26, 116)]) (df := 118) (by decide +kernel) ?_
    refine sSc oI (fun _ => ?_) (fun _ => ?_)
    · refine sBk (lo' := [(0, vi a0)]) (st' := [vi 1]) (μ' := μ) (pc' := 117) [(.iconst 1, 0, 0, 1, 0)] (by decide +kernel) rfl rfl ?_
      exact sRi (by decide +kernel) (fun _ => Or.inr rfl)
    refine sSc oI (fun _ => ?_) (fun _ => ?_)
    · refine sBk (lo' := [(0, vi a0)]) (st' := [vi 1]) (μ' := μ) (pc' := 117) [(.iconst 1, 0, 0, 1, 0)] (by decide +kernel) rfl rfl ?_
      exact sRi (by decide +kernel) (fun _ => Or.inr rfl)
    refine sSc oI (fun _ => ?_) (fun _ => ?_)
    · refine sBk (lo' := [(0, vi a0)]) (st' := [vi 1]) (μ' := μ) (pc' := 117) [(.iconst 1, 0, 0, 1, 0)] (by decide +kernel) rfl rfl ?_
      exact sRi (by decide +kernel) (fun _ => Or.inr rfl)
    refine sSc oI (fun _ => ?_) (fun _ => ?_)
    · refine sBk (lo' := [(0, vi a0)]) (st' := [vi 1]) (μ' := μ) (pc' := 117) [(.iconst 1, 0, 0, 1, 0)] (by decide +kernel) rfl rfl ?_
      exact sRi (by decide +kernel) (fun _ => Or.inr rfl)
    refine sSc oI (fun _ => ?_) (fun _ => ?_)
    · refine sBk (lo' := [(0, vi a0)]) (st' := [vi 1]) (μ' := μ) (pc' := 117) [(.iconst 1, 0, 0, 1, 0)] (by decide +kernel) rfl rfl ?_
      exact sRi (by decide +kernel) (fun _ => Or.inr rfl)
    refine sSc oI (fun _ => ?_) (fun _ => ?_)
    · refine sBk (lo' := [(0, vi a0)]) (st' := [vi 1]) (μ' := μ) (pc' := 117) [(.iconst 1, 0, 0, 1, 0)] (by decide +kernel) rfl rfl ?_
      exact sRi (by decide +kernel) (fun _ => Or.inr rfl)
    refine sSc oI (fun _ => ?_) (fun _ => ?_)
    · refine sBk (lo' := [(0, vi a0)]) (st' := [vi 1]) (μ' := μ) (pc' := 117) [(.iconst 1, 0, 0, 1, 0)] (by decide +kernel) rfl rfl ?_
      exact sRi (by decide +kernel) (fun _ => Or.inr rfl)
    refine sSc oI (fun _ => ?_) (fun _ => ?_)
    · refine sBk (lo' := [(0, vi a0)]) (st' := [vi 1]) (μ' := μ) (pc' := 117) [(.iconst 1, 0, 0, 1, 0)] (by decide +kernel) rfl rfl ?_
      exact sRi (by decide +kernel) (fun _ => Or.inr rfl)
    refine sSc oI (fun _ => ?_) (fun _ => ?_)
    · refine sBk (lo' := [(0, vi a0)]) (st' := [vi 1]) (μ' := μ) (pc' := 117) [(.iconst 1, 0, 0, 1, 0)] (by decide +kernel) rfl rfl ?_
      exact sRi (by decide +kernel) (fun _ => Or.inr rfl)
    refine sSc oI (fun _ => ?_) (fun _ => ?_)
    · refine sBk (lo' := [(0, vi a0)]) (st' := [vi 1]) (μ' := μ) (pc' := 117) [(.iconst 1, 0, 0, 1, 0)] (by decide +kernel) rfl rfl ?_
      exact sRi (by decide +kernel) (fun _ => Or.inr rfl)
    refine sSd ?_
    refine sBk (lo' := [(0, vi a0)]) (st' := [vi 0]) (μ' := μ) (pc' := 119) [(.iconst 0, 0, 0, 0, 0)] (by decide +kernel) rfl rfl ?_
    exact sRi (by decide +kernel) (fun _ => Or.inl rfl)
/-! ClockRiver$WeeksReader.beginStep -/
def X9_beginStep_J137 (μ : sM) : Option (Int32 × sM) :=
  if (rR μ 10 0 1) = 1 then
    bV (X6_advance μ) fun μ3 =>
      some (1, μ3)
  else none
theorem X9_beginStep_J137_ok (μ : sM) : sOk 9 cX9_beginStep 3 3 true 137 [(0, vr 10 0)] [] μ (oI (X9_beginStep_J137 μ)) := by
  unfold X9_beginStep_J137
  refine sBk (lo' := [(0, vr 10 0)]) (st' := [vr 10 0]) (μ' := μ) (pc' := 138) [(.aload_n 0, 0, 0, 0, 0)] (by decide +kernel) rfl rfl ?_
  refine sCk oI rfl (fun h1 => ?_)
  refine sGr (idx := 22) (ci := 9) (sl := 1) (n := 0) (by decide +kernel) rfl rfl h1 ?_
  refine sCvV oI rfl (ci := 6) (q := (7, 0)) (avs := []) (rest := []) (tX6_advance μ) (by decide) (by decide +kernel) lk_9_72 yv_X6_advance rfl (by decide) rfl rfl rfl (Nat.le_of_ble_eq_true rfl) (fun μ3 => ?_)
  refine sBk (lo' := [(0, vr 10 0)]) (st' := [vi 1]) (μ' := μ3) (pc' := 145) [(.iconst 1, 0, 0, 1, 0)] (by decide +kernel) rfl rfl ?_
  exact sRi (by decide +kernel) (fun _ => Or.inr rfl)
def X9_beginStep_J85 (v1 : Int32) (v2 : Int32) (μ : sM) : Option (Int32 × sM) :=
  bI (X8_addRow 4 v1 μ) fun x1 μ2 =>
    if v2 = 0 then
      X9_beginStep_J137 (wI (wI μ2 10 0 3 x1) 9 4 1 ((rI μ2 9 4 1) + 1))
    else
      if inb (rI μ2 10 0 4) 3 = true then
        X9_beginStep_J137 (wI (wI (wI (wI μ2 10 0 3 x1) 9 4 1 ((rI μ2 9 4 1) + 1)) 49 0 (ix (rI μ2 10 0 4)) x1) 10 0 4 ((rI μ2 10 0 4) + 1))
      else none
theorem X9_beginStep_J85_ok (v1 : Int32) (v2 : Int32) (μ : sM) : sOk 9 cX9_beginStep 3 3 true 85 [(0, vr 10 0), (1, vi v1), (2, vi v2)] [] μ (oI (X9_beginStep_J85 v1 v2 μ)) := by
  unfold X9_beginStep_J85
  refine sBk (lo' := [(0, vr 10 0), (1, vi v1), (2, vi v2)]) (st' := [vi v1, vr 9 4, vr 10 0]) (μ' := μ) (pc' := 91) [(.aload_n 0, 0, 0, 0, 0), (.aload_n 0, 0, 0, 0, 0), (.getfield 12, 9, 0, 0, 0), (.iload_n 1, 0, 0, 0, 0)] (by decide +kernel) rfl rfl ?_
  refine sCvI oI rfl (ci := 8) (q := (9, 4)) (avs := [vi v1]) (rest := [vr 10 0]) (tX8_addRow 4 v1 μ) (by decide) (by decide +kernel) lk_9_62 yv_X8_addRow rfl (by decide) rfl rfl rfl (Nat.le_of_ble_eq_true rfl) (fun x1 μ2 => ?_)
  refine sBk (lo' := [(0, vr 10 0), (1, vi v1), (2, vi v2)]) (st' := [vi v2]) (μ' := wI (wI μ2 10 0 3 x1) 9 4 1 ((rI μ2 9 4 1) + 1)) (pc' := 111) [(.putfield 66, 9, 3, 0, 0), (.aload_n 0, 0, 0, 0, 0), (.getfield 12, 9, 0, 0, 0), (.dup, 0, 0, 0, 0), (.getfield 79, 8, 1, 0, 0), (.iconst 1, 0, 0, 1, 0), (.iadd, 0, 0, 0, 0), (.putfield 79, 8, 1, 0, 0), (.iload_n 2, 0, 0, 0, 0)] (by decide +kernel) rfl rfl ?_
  refine sIf_eq oI (off := 26) (tgt := 137) (by decide +kernel) (by decide) (fun _ => ?_) (fun _ => ?_)
  · refine sWk (lo' := [(0, vr 10 0)]) [0] rfl ?_
    exact X9_beginStep_J137_ok (wI (wI μ2 10 0 3 x1) 9 4 1 ((rI μ2 9 4 1) + 1))
  · refine sBk (lo' := [(0, vr 10 0), (1, vi v1), (2, vi v2)]) (st' := [vi x1, vi (rI μ2 10 0 4), vr 49 0]) (μ' := wI (wI μ2 10 0 3 x1) 9 4 1 ((rI μ2 9 4 1) + 1)) (pc' := 126) [(.aload_n 0, 0, 0, 0, 0), (.getfield 18, 9, 5, 0, 0), (.aload_n 0, 0, 0, 0, 0), (.getfield 30, 9, 4, 0, 0), (.aload_n 0, 0, 0, 0, 0), (.getfield 66, 9, 3, 0, 0)] (by decide +kernel) rfl rfl ?_
    refine sS_ias oI rfl (n := 3) (j := (ix (rI μ2 10 0 4))) (by decide +kernel) rfl rfl rfl (fun _ => ?_)
    refine sBk (lo' := [(0, vr 10 0), (1, vi v1), (2, vi v2)]) (st' := []) (μ' := wI (wI (wI (wI μ2 10 0 3 x1) 9 4 1 ((rI μ2 9 4 1) + 1)) 49 0 (ix (rI μ2 10 0 4)) x1) 10 0 4 ((rI μ2 10 0 4) + 1)) (pc' := 137) [(.aload_n 0, 0, 0, 0, 0), (.dup, 0, 0, 0, 0), (.getfield 30, 9, 4, 0, 0), (.iconst 1, 0, 0, 1, 0), (.iadd, 0, 0, 0, 0), (.putfield 30, 9, 4, 0, 0)] (by decide +kernel) rfl rfl ?_
    refine sWk (lo' := [(0, vr 10 0)]) [0] rfl ?_
    exact X9_beginStep_J137_ok (wI (wI (wI (wI μ2 10 0 3 x1) 9 4 1 ((rI μ2 9 4 1) + 1)) 49 0 (ix (rI μ2 10 0 4)) x1) 10 0 4 ((rI μ2 10 0 4) + 1))
def X9_beginStep_J62 (v1 : Int32) (s0 : Int32) (μ : sM) : Option (Int32 × sM) :=
  if s0 = 0 then
    X9_beginStep_J85 v1 s0 μ
  else
    if (rI μ 10 0 4) < 3 then
      X9_beginStep_J85 v1 s0 μ
    else
      if (rR μ 10 0 1) = 1 then
        bI (X6_fail 7 μ) fun x2 μ3 =>
          if x2 = 0 ∨ x2 = 1 then some (x2, μ3) else none
      else none
theorem X9_beginStep_J62_ok (v1 : Int32) (s0 : Int32) (μ : sM) : sOk 9 cX9_beginStep 3 3 true 62 [(0, vr 10 0), (1, vi v1)] [vi s0] μ (oI (X9_beginStep_J62 v1 s0 μ)) := by
  unfold X9_beginStep_J62
  refine sBk (lo' := [(2, vi s0), (0, vr 10 0), (1, vi v1)]) (st' := [vi s0]) (μ' := μ) (pc' := 64) [(.istore_n 2, 0, 0, 0, 0), (.iload_n 2, 0, 0, 0, 0)] (by decide +kernel) rfl rfl ?_
  refine sIf_eq oI (off := 21) (tgt := 85) (by decide +kernel) (by decide) (fun _ => ?_) (fun _ => ?_)
  · refine sWk (lo' := [(0, vr 10 0), (1, vi v1), (2, vi s0)]) [1, 2, 0] rfl ?_
    exact X9_beginStep_J85_ok v1 s0 μ
  · refine sBk (lo' := [(2, vi s0), (0, vr 10 0), (1, vi v1)]) (st' := [vi 3, vi (rI μ 10 0 4)]) (μ' := μ) (pc' := 72) [(.aload_n 0, 0, 0, 0, 0), (.getfield 30, 9, 4, 0, 0), (.iconst 3, 0, 0, 3, 0)] (by decide +kernel) rfl rfl ?_
    refine sIc_lt oI (off := 13) (tgt := 85) (by decide +kernel) (by decide) (fun _ => ?_) (fun _ => ?_)
    · refine sWk (lo' := [(0, vr 10 0), (1, vi v1), (2, vi s0)]) [1, 2, 0] rfl ?_
      exact X9_beginStep_J85_ok v1 s0 μ
    · refine sBk (lo' := [(2, vi s0), (0, vr 10 0), (1, vi v1)]) (st' := [vr 10 0]) (μ' := μ) (pc' := 76) [(.aload_n 0, 0, 0, 0, 0)] (by decide +kernel) rfl rfl ?_
      refine sCk oI rfl (fun h1 => ?_)
      refine sGr (idx := 22) (ci := 9) (sl := 1) (n := 0) (by decide +kernel) rfl rfl h1 ?_
      refine sBk (lo' := [(2, vi s0), (0, vr 10 0), (1, vi v1)]) (st' := [vi 7, vr 7 0]) (μ' := μ) (pc' := 81) [(.bipush 7, 0, 0, 7, 0)] (by decide +kernel) rfl rfl ?_
      refine sCvI oI rfl (ci := 6) (q := (7, 0)) (avs := [vi 7]) (rest := []) (tX6_fail 7 μ) (by decide) (by decide +kernel) lk_9_82 yv_X6_fail rfl (by decide) rfl rfl rfl (Nat.le_of_ble_eq_true rfl) (fun x2 μ3 => ?_)
      exact sCk oI rfl (fun h => sRi (by decide +kernel) (fun _ => h))
def X9_beginStep_J57 (v1 : Int32) (μ : sM) : Option (Int32 × sM) :=
  X9_beginStep_J62 v1 1 μ
theorem X9_beginStep_J57_ok (v1 : Int32) (μ : sM) : sOk 9 cX9_beginStep 3 3 true 57 [(0, vr 10 0), (1, vi v1)] [] μ (oI (X9_beginStep_J57 v1 μ)) := by
  unfold X9_beginStep_J57
  refine sBk (lo' := [(0, vr 10 0), (1, vi v1)]) (st' := [vi 1]) (μ' := μ) (pc' := 58) [(.iconst 1, 0, 0, 1, 0)] (by decide +kernel) rfl rfl ?_
  refine sGt (off := 4) (tgt := 62) (by decide +kernel) (by decide) ?_
  exact X9_beginStep_J62_ok v1 1 μ
def X9_beginStep (μ : sM) : Option (Int32 × sM) :=
  if (rR μ 10 0 1) = 1 then
    bI (X9_isStep (rI μ 7 0 4) μ) fun x2 μ3 =>
      if x2 = 0 then
        if (rR μ3 10 0 1) = 1 then
          bI (X6_failToStand μ3) fun x8 μ9 =>
            if x8 = 0 ∨ x8 = 1 then some (x8, μ9) else none
        else none
      else
        if (rI μ3 9 4 1) < 30 then
          if (rI μ 7 0 4) = 20 then
            X9_beginStep_J57 (rI μ 7 0 4) μ3
          else
            if (rI μ 7 0 4) = 24 then
              X9_beginStep_J57 (rI μ 7 0 4) μ3
            else
              X9_beginStep_J62 (rI μ 7 0 4) 0 μ3
        else
          if (rR μ3 10 0 1) = 1 then
            bI (X6_fail 6 μ3) fun x5 μ6 =>
              if x5 = 0 ∨ x5 = 1 then some (x5, μ6) else none
          else none
  else none
theorem tX9_beginStep (μ : sM) : sMt yX9_beginStep cX9_beginStep 3 (some .boolean) 3 [vr 10 0] μ (oI (X9_beginStep μ)) := by
  refine sMt_of (own := 9) (bl := true) (by decide +kernel) rfl (Nat.le_of_ble_eq_true rfl) (fun r ρ h => ?_) ?_
  · obtain ⟨q, -, hq⟩ := Option.map_eq_some_iff.mp h
    cases hq
    exact Or.inr ⟨rfl, rfl⟩
  · unfold X9_beginStep
    show sOk 9 cX9_beginStep 3 3 true 0 [(0, vr 10 0)] [] μ _
    refine sBk (lo' := [(0, vr 10 0)]) (st' := [vr 10 0]) (μ' := μ) (pc' := 1) [(.aload_n 0, 0, 0, 0, 0)] (by decide +kernel) rfl rfl ?_
    refine sCk oI rfl (fun h1 => ?_)
    refine sGr (idx := 22) (ci := 9) (sl := 1) (n := 0) (by decide +kernel) rfl rfl h1 ?_
    refine sBk (lo' := [(1, vi (rI μ 7 0 4)), (0, vr 10 0)]) (st' := [vi (rI μ 7 0 4)]) (μ' := μ) (pc' := 9) [(.getfield 41, 6, 4, 0, 0), (.istore_n 1, 0, 0, 0, 0), (.iload_n 1, 0, 0, 0, 0)] (by decide +kernel) rfl rfl ?_
    refine sCsI oI rfl (avs := [vi (rI μ 7 0 4)]) (rest := []) (tX9_isStep (rI μ 7 0 4) μ) (by decide) (by decide +kernel) lk_9_75 ys_X9_isStep rfl rfl (Nat.le_of_ble_eq_true rfl) (fun x2 μ3 => ?_)
    refine sIf_ne oI (off := 11) (tgt := 23) (by decide +kernel) (by decide) (fun _ => ?_) (fun _ => ?_)
    · refine sBk (lo' := [(1, vi (rI μ 7 0 4)), (0, vr 10 0)]) (st' := [vi 30, vi (rI μ3 9 4 1)]) (μ' := μ3) (pc' := 32) [(.aload_n 0, 0, 0, 0, 0), (.getfield 12, 9, 0, 0, 0), (.getfield 79, 8, 1, 0, 0), (.bipush 30, 0, 0, 30, 0)] (by decide +kernel) rfl rfl ?_
      refine sIc_lt oI (off := 13) (tgt := 45) (by decide +kernel) (by decide) (fun _ => ?_) (fun _ => ?_)
      · refine sBk (lo' := [(1, vi (rI μ 7 0 4)), (0, vr 10 0)]) (st' := [vi 20, vi (rI μ 7 0 4)]) (μ' := μ3) (pc' := 48) [(.iload_n 1, 0, 0, 0, 0), (.bipush 20, 0, 0, 20, 0)] (by decide +kernel) rfl rfl ?_
        refine sIc_eq oI (off := 9) (tgt := 57) (by decide +kernel) (by decide) (fun _ => ?_) (fun _ => ?_)
        · refine sWk (lo' := [(0, vr 10 0), (1, vi (rI μ 7 0 4))]) [1, 0] rfl ?_
          exact X9_beginStep_J57_ok (rI μ 7 0 4) μ3
        · refine sBk (lo' := [(1, vi (rI μ 7 0 4)), (0, vr 10 0)]) (st' := [vi 24, vi (rI μ 7 0 4)]) (μ' := μ3) (pc' := 54) [(.iload_n 1, 0, 0, 0, 0), (.bipush 24, 0, 0, 24, 0)] (by decide +kernel) rfl rfl ?_
          refine sIc_ne oI (off := 7) (tgt := 61) (by decide +kernel) (by decide) (fun _ => ?_) (fun _ => ?_)
          · refine sBk (lo' := [(1, vi (rI μ 7 0 4)), (0, vr 10 0)]) (st' := [vi 0]) (μ' := μ3) (pc' := 62) [(.iconst 0, 0, 0, 0, 0)] (by decide +kernel) rfl rfl ?_
            refine sWk (lo' := [(0, vr 10 0), (1, vi (rI μ 7 0 4))]) [1, 0] rfl ?_
            exact X9_beginStep_J62_ok (rI μ 7 0 4) 0 μ3
          · refine sWk (lo' := [(0, vr 10 0), (1, vi (rI μ 7 0 4))]) [1, 0] rfl ?_
            exact X9_beginStep_J57_ok (rI μ 7 0 4) μ3
      · refine sBk (lo' := [(1, vi (rI μ 7 0 4)), (0, vr 10 0)]) (st' := [vr 10 0]) (μ' := μ3) (pc' := 36) [(.aload_n 0, 0, 0, 0, 0)] (by decide +kernel) rfl rfl ?_
        refine sCk oI rfl (fun h4 => ?_)
        refine sGr (idx := 22) (ci := 9) (sl := 1) (n := 0) (by decide +kernel) rfl rfl h4 ?_
        refine sBk (lo' := [(1, vi (rI μ 7 0 4)), (0, vr 10 0)]) (st' := [vi 6, vr 7 0]) (μ' := μ3) (pc' := 41) [(.bipush 6, 0, 0, 6, 0)] (by decide +kernel) rfl rfl ?_
        refine sCvI oI rfl (ci := 6) (q := (7, 0)) (avs := [vi 6]) (rest := []) (tX6_fail 6 μ3) (by decide) (by decide +kernel) lk_9_82 yv_X6_fail rfl (by decide) rfl rfl rfl (Nat.le_of_ble_eq_true rfl) (fun x5 μ6 => ?_)
        exact sCk oI rfl (fun h => sRi (by decide +kernel) (fun _ => h))
    · refine sBk (lo' := [(1, vi (rI μ 7 0 4)), (0, vr 10 0)]) (st' := [vr 10 0]) (μ' := μ3) (pc' := 16) [(.aload_n 0, 0, 0, 0, 0)] (by decide +kernel) rfl rfl ?_
      refine sCk oI rfl (fun h7 => ?_)
      refine sGr (idx := 22) (ci := 9) (sl := 1) (n := 0) (by decide +kernel) rfl rfl h7 ?_
      refine sCvI oI rfl (ci := 6) (q := (7, 0)) (avs := []) (rest := []) (tX6_failToStand μ3) (by decide) (by decide +kernel) lk_9_59 yv_X6_failToStand rfl (by decide) rfl rfl rfl (Nat.le_of_ble_eq_true rfl) (fun x8 μ9 => ?_)
      exact sCk oI rfl (fun h => sRi (by decide +kernel) (fun _ => h))
/-! ClockRiver$WeeksReader.takeNumber -/
def X9_takeNumber (a1 : Int32) (a2 : Int32) (μ : sM) : Option (Int32 × sM) :=
  if (rR μ 10 0 1) = 1 then
    bI (X6_takeNumber a1 a2 μ) fun x2 μ3 =>
      if x2 = 0 then
        some (0, μ3)
      else
        if (rR μ3 10 0 1) = 1 then
          if inb (rI μ3 10 0 3) 60 = true then
            some (1, wI μ3 45 4 (ix (rI μ3 10 0 3)) (rI μ3 7 0 6))
          else none
        else none
  else none
theorem tX9_takeNumber (a1 : Int32) (a2 : Int32) (μ : sM) : sMt yX9_takeNumber cX9_takeNumber 3 (some .boolean) 4 [vr 10 0, vi a1, vi a2] μ (oI (X9_takeNumber a1 a2 μ)) := by
  refine sMt_of (own := 9) (bl := true) (by decide +kernel) rfl (Nat.le_of_ble_eq_true rfl) (fun r ρ h => ?_) ?_
  · obtain ⟨q, -, hq⟩ := Option.map_eq_some_iff.mp h
    cases hq
    exact Or.inr ⟨rfl, rfl⟩
  · unfold X9_takeNumber
    show sOk 9 cX9_takeNumber 3 4 true 0 [(0, vr 10 0), (1, vi a1), (2, vi a2)] [] μ _
    refine sBk (lo' := [(0, vr 10 0), (1, vi a1), (2, vi a2)]) (st' := [vr 10 0]) (μ' := μ) (pc' := 1) [(.aload_n 0, 0, 0, 0, 0)] (by decide +kernel) rfl rfl ?_
    refine sCk oI rfl (fun h1 => ?_)
    refine sGr (idx := 22) (ci := 9) (sl := 1) (n := 0) (by decide +kernel) rfl rfl h1 ?_
    refine sBk (lo' := [(0, vr 10 0), (1, vi a1), (2, vi a2)]) (st' := [vi a2, vi a1, vr 7 0]) (μ' := μ) (pc' := 6) [(.iload_n 1, 0, 0, 0, 0), (.iload_n 2, 0, 0, 0, 0)] (by decide +kernel) rfl rfl ?_
    refine sCvI oI rfl (ci := 6) (q := (7, 0)) (avs := [vi a1, vi a2]) (rest := []) (tX6_takeNumber a1 a2 μ) (by decide) (by decide +kernel) lk_9_161 yv_X6_takeNumber rfl (by decide) rfl rfl rfl (Nat.le_of_ble_eq_true rfl) (fun x2 μ3 => ?_)
    refine sIf_ne oI (off := 5) (tgt := 14) (by decide +kernel) (by decide) (fun _ => ?_) (fun _ => ?_)
    · refine sBk (lo' := [(0, vr 10 0), (1, vi a1), (2, vi a2)]) (st' := [vr 10 0, vi (rI μ3 10 0 3), vr 45 4]) (μ' := μ3) (pc' := 26) [(.aload_n 0, 0, 0, 0, 0), (.getfield 12, 9, 0, 0, 0), (.getfield 125, 8, 5, 0, 0), (.aload_n 0, 0, 0, 0, 0), (.getfield 66, 9, 3, 0, 0), (.aload_n 0, 0, 0, 0, 0)] (by decide +kernel) rfl rfl ?_
      refine sCk oI rfl (fun h4 => ?_)
      refine sGr (idx := 22) (ci := 9) (sl := 1) (n := 0) (by decide +kernel) rfl rfl h4 ?_
      refine sBk (lo' := [(0, vr 10 0), (1, vi a1), (2, vi a2)]) (st' := [vi (rI μ3 7 0 6), vi (rI μ3 10 0 3), vr 45 4]) (μ' := μ3) (pc' := 32) [(.getfield 162, 6, 6, 0, 0)] (by decide +kernel) rfl rfl ?_
      refine sS_ias oI rfl (n := 60) (j := (ix (rI μ3 10 0 3))) (by decide +kernel) rfl rfl rfl (fun _ => ?_)
      refine sBk (lo' := [(0, vr 10 0), (1, vi a1), (2, vi a2)]) (st' := [vi 1]) (μ' := wI μ3 45 4 (ix (rI μ3 10 0 3)) (rI μ3 7 0 6)) (pc' := 34) [(.iconst 1, 0, 0, 1, 0)] (by decide +kernel) rfl rfl ?_
      exact sRi (by decide +kernel) (fun _ => Or.inr rfl)
    · refine sBk (lo' := [(0, vr 10 0), (1, vi a1), (2, vi a2)]) (st' := [vi 0]) (μ' := μ3) (pc' := 13) [(.iconst 0, 0, 0, 0, 0)] (by decide +kernel) rfl rfl ?_
      exact sRi (by decide +kernel) (fun _ => Or.inl rfl)
/-! ClockRiver$WeeksReader.takeName -/
def X9_takeName_28 (a1 : Nat) (a2 : Int32) (μ : sM) : Option (Int32 × sM) :=
  if (rR μ 10 0 1) = 1 then
    if (rI μ 7 0 4) = 27 then
      if (rR μ 10 0 1) = 1 then
        bI (X4_placeOf_28 (rL μ 7 0 5) a1 a2 μ) fun x3 μ4 =>
          if x3 = (-1) then
            if (rR μ4 10 0 1) = 1 then
              bI (X6_fail 3 μ4) fun x9 μ10 =>
                if x9 = 0 ∨ x9 = 1 then some (x9, μ10) else none
            else none
          else
            if inb (rI μ4 10 0 3) 60 = true then
              if (rR μ4 10 0 1) = 1 then
                bV (X6_advance (wI μ4 44 4 (ix (rI μ4 10 0 3)) x3)) fun μ7 =>
                  some (1, μ7)
              else none
            else none
      else none
    else
      if (rR μ 10 0 1) = 1 then
        bI (X6_failToStand μ) fun x12 μ13 =>
          if x12 = 0 ∨ x12 = 1 then some (x12, μ13) else none
      else none
  else none
theorem tX9_takeName_28 (a1 : Nat) (a2 : Int32) (μ : sM) : sMt yX9_takeName cX9_takeName 4 (some .boolean) 3 [vr 10 0, vr 28 a1, vi a2] μ (oI (X9_takeName_28 a1 a2 μ)) := by
  refine sMt_of (own := 9) (bl := true) (by decide +kernel) rfl (Nat.le_of_ble_eq_true rfl) (fun r ρ h => ?_) ?_
  · obtain ⟨q, -, hq⟩ := Option.map_eq_some_iff.mp h
    cases hq
    exact Or.inr ⟨rfl, rfl⟩
  · unfold X9_takeName_28
    show sOk 9 cX9_takeName 4 3 true 0 [(0, vr 10 0), (1, vr 28 a1), (2, vi a2)] [] μ _
    refine sBk (lo' := [(0, vr 10 0), (1, vr 28 a1), (2, vi a2)]) (st' := [vr 10 0]) (μ' := μ) (pc' := 1) [(.aload_n 0, 0, 0, 0, 0)] (by decide +kernel) rfl rfl ?_
    refine sCk oI rfl (fun h1 => ?_)
    refine sGr (idx := 22) (ci := 9) (sl := 1) (n := 0) (by decide +kernel) rfl rfl h1 ?_
    refine sBk (lo' := [(0, vr 10 0), (1, vr 28 a1), (2, vi a2)]) (st' := [vi 27, vi (rI μ 7 0 4)]) (μ' := μ) (pc' := 9) [(.getfield 41, 6, 4, 0, 0), (.bipush 27, 0, 0, 27, 0)] (by decide +kernel) rfl rfl ?_
    refine sIc_eq oI (off := 11) (tgt := 20) (by decide +kernel) (by decide) (fun _ => ?_) (fun _ => ?_)
    · refine sBk (lo' := [(0, vr 10 0), (1, vr 28 a1), (2, vi a2)]) (st' := [vr 10 0]) (μ' := μ) (pc' := 21) [(.aload_n 0, 0, 0, 0, 0)] (by decide +kernel) rfl rfl ?_
      refine sCk oI rfl (fun h2 => ?_)
      refine sGr (idx := 22) (ci := 9) (sl := 1) (n := 0) (by decide +kernel) rfl rfl h2 ?_
      refine sBk (lo' := [(0, vr 10 0), (1, vr 28 a1), (2, vi a2)]) (st' := [vi a2, vr 28 a1, vl (rL μ 7 0 5)]) (μ' := μ) (pc' := 29) [(.getfield 145, 6, 5, 0, 0), (.aload_n 1, 0, 0, 0, 0), (.iload_n 2, 0, 0, 0, 0)] (by decide +kernel) rfl rfl ?_
      refine sCsI oI rfl (avs := [vl (rL μ 7 0 5), vr 28 a1, vi a2]) (rest := []) (tX4_placeOf_28 (rL μ 7 0 5) a1 a2 μ) (by decide) (by decide +kernel) lk_9_149 ys_X4_placeOf rfl rfl (Nat.le_of_ble_eq_true rfl) (fun x3 μ4 => ?_)
      refine sBk (lo' := [(3, vi x3), (0, vr 10 0), (1, vr 28 a1), (2, vi a2)]) (st' := [vi (-1), vi x3]) (μ' := μ4) (pc' := 35) [(.istore_n 3, 0, 0, 0, 0), (.iload_n 3, 0, 0, 0, 0), (.iconst (-1), 0, 0, (-1), 0)] (by decide +kernel) rfl rfl ?_
      refine sIc_ne oI (off := 12) (tgt := 47) (by decide +kernel) (by decide) (fun _ => ?_) (fun _ => ?_)
      · refine sBk (lo' := [(3, vi x3), (0, vr 10 0), (1, vr 28 a1), (2, vi a2)]) (st' := [vi x3, vi (rI μ4 10 0 3), vr 44 4]) (μ' := μ4) (pc' := 59) [(.aload_n 0, 0, 0, 0, 0), (.getfield 12, 9, 0, 0, 0), (.getfield 153, 8, 4, 0, 0), (.aload_n 0, 0, 0, 0, 0), (.getfield 66, 9, 3, 0, 0), (.iload_n 3, 0, 0, 0, 0)] (by decide +kernel) rfl rfl ?_
        refine sS_ias oI rfl (n := 60) (j := (ix (rI μ4 10 0 3))) (by decide +kernel) rfl rfl rfl (fun _ => ?_)
        refine sBk (lo' := [(3, vi x3), (0, vr 10 0), (1, vr 28 a1), (2, vi a2)]) (st' := [vr 10 0]) (μ' := wI μ4 44 4 (ix (rI μ4 10 0 3)) x3) (pc' := 61) [(.aload_n 0, 0, 0, 0, 0)] (by decide +kernel) rfl rfl ?_
        refine sCk oI rfl (fun h5 => ?_)
        refine sGr (idx := 22) (ci := 9) (sl := 1) (n := 0) (by decide +kernel) rfl rfl h5 ?_
        refine sCvV oI rfl (ci := 6) (q := (7, 0)) (avs := []) (rest := []) (tX6_advance (wI μ4 44 4 (ix (rI μ4 10 0 3)) x3)) (by decide) (by decide +kernel) lk_9_72 yv_X6_advance rfl (by decide) rfl rfl rfl (Nat.le_of_ble_eq_true rfl) (fun μ7 => ?_)
        refine sBk (lo' := [(3, vi x3), (0, vr 10 0), (1, vr 28 a1), (2, vi a2)]) (st' := [vi 1]) (μ' := μ7) (pc' := 68) [(.iconst 1, 0, 0, 1, 0)] (by decide +kernel) rfl rfl ?_
        exact sRi (by decide +kernel) (fun _ => Or.inr rfl)
      · refine sBk (lo' := [(3, vi x3), (0, vr 10 0), (1, vr 28 a1), (2, vi a2)]) (st' := [vr 10 0]) (μ' := μ4) (pc' := 39) [(.aload_n 0, 0, 0, 0, 0)] (by decide +kernel) rfl rfl ?_
        refine sCk oI rfl (fun h8 => ?_)
        refine sGr (idx := 22) (ci := 9) (sl := 1) (n := 0) (by decide +kernel) rfl rfl h8 ?_
        refine sBk (lo' := [(3, vi x3), (0, vr 10 0), (1, vr 28 a1), (2, vi a2)]) (st' := [vi 3, vr 7 0]) (μ' := μ4) (pc' := 43) [(.iconst 3, 0, 0, 3, 0)] (by decide +kernel) rfl rfl ?_
        refine sCvI oI rfl (ci := 6) (q := (7, 0)) (avs := [vi 3]) (rest := []) (tX6_fail 3 μ4) (by decide) (by decide +kernel) lk_9_82 yv_X6_fail rfl (by decide) rfl rfl rfl (Nat.le_of_ble_eq_true rfl) (fun x9 μ10 => ?_)
        exact sCk oI rfl (fun h => sRi (by decide +kernel) (fun _ => h))
    · refine sBk (lo' := [(0, vr 10 0), (1, vr 28 a1), (2, vi a2)]) (st' := [vr 10 0]) (μ' := μ) (pc' := 13) [(.aload_n 0, 0, 0, 0, 0)] (by decide +kernel) rfl rfl ?_
      refine sCk oI rfl (fun h11 => ?_)
      refine sGr (idx := 22) (ci := 9) (sl := 1) (n := 0) (by decide +kernel) rfl rfl h11 ?_
      refine sCvI oI rfl (ci := 6) (q := (7, 0)) (avs := []) (rest := []) (tX6_failToStand μ) (by decide) (by decide +kernel) lk_9_59 yv_X6_failToStand rfl (by decide) rfl rfl rfl (Nat.le_of_ble_eq_true rfl) (fun x12 μ13 => ?_)
      exact sCk oI rfl (fun h => sRi (by decide +kernel) (fun _ => h))
/-! ClockRiver$WeeksReader.takeName -/
def X9_takeName_24 (a1 : Nat) (a2 : Int32) (μ : sM) : Option (Int32 × sM) :=
  if (rR μ 10 0 1) = 1 then
    if (rI μ 7 0 4) = 27 then
      if (rR μ 10 0 1) = 1 then
        bI (X4_placeOf_24 (rL μ 7 0 5) a1 a2 μ) fun x3 μ4 =>
          if x3 = (-1) then
            if (rR μ4 10 0 1) = 1 then
              bI (X6_fail 3 μ4) fun x9 μ10 =>
                if x9 = 0 ∨ x9 = 1 then some (x9, μ10) else none
            else none
          else
            if inb (rI μ4 10 0 3) 60 = true then
              if (rR μ4 10 0 1) = 1 then
                bV (X6_advance (wI μ4 44 4 (ix (rI μ4 10 0 3)) x3)) fun μ7 =>
                  some (1, μ7)
              else none
            else none
      else none
    else
      if (rR μ 10 0 1) = 1 then
        bI (X6_failToStand μ) fun x12 μ13 =>
          if x12 = 0 ∨ x12 = 1 then some (x12, μ13) else none
      else none
  else none
theorem tX9_takeName_24 (a1 : Nat) (a2 : Int32) (μ : sM) : sMt yX9_takeName cX9_takeName 4 (some .boolean) 3 [vr 10 0, vr 24 a1, vi a2] μ (oI (X9_takeName_24 a1 a2 μ)) := by
  refine sMt_of (own := 9) (bl := true) (by decide +kernel) rfl (Nat.le_of_ble_eq_true rfl) (fun r ρ h => ?_) ?_
  · obtain ⟨q, -, hq⟩ := Option.map_eq_some_iff.mp h
    cases hq
    exact Or.inr ⟨rfl, rfl⟩
  · unfold X9_takeName_24
    show sOk 9 cX9_takeName 4 3 true 0 [(0, vr 10 0), (1, vr 24 a1), (2, vi a2)] [] μ _
    refine sBk (lo' := [(0, vr 10 0), (1, vr 24 a1), (2, vi a2)]) (st' := [vr 10 0]) (μ' := μ) (pc' := 1) [(.aload_n 0, 0, 0, 0, 0)] (by decide +kernel) rfl rfl ?_
    refine sCk oI rfl (fun h1 => ?_)
    refine sGr (idx := 22) (ci := 9) (sl := 1) (n := 0) (by decide +kernel) rfl rfl h1 ?_
    refine sBk (lo' := [(0, vr 10 0), (1, vr 24 a1), (2, vi a2)]) (st' := [vi 27, vi (rI μ 7 0 4)]) (μ' := μ) (pc' := 9) [(.getfield 41, 6, 4, 0, 0), (.bipush 27, 0, 0, 27, 0)] (by decide +kernel) rfl rfl ?_
    refine sIc_eq oI (off := 11) (tgt := 20) (by decide +kernel) (by decide) (fun _ => ?_) (fun _ => ?_)
    · refine sBk (lo' := [(0, vr 10 0), (1, vr 24 a1), (2, vi a2)]) (st' := [vr 10 0]) (μ' := μ) (pc' := 21) [(.aload_n 0, 0, 0, 0, 0)] (by decide +kernel) rfl rfl ?_
      refine sCk oI rfl (fun h2 => ?_)
      refine sGr (idx := 22) (ci := 9) (sl := 1) (n := 0) (by decide +kernel) rfl rfl h2 ?_
      refine sBk (lo' := [(0, vr 10 0), (1, vr 24 a1), (2, vi a2)]) (st' := [vi a2, vr 24 a1, vl (rL μ 7 0 5)]) (μ' := μ) (pc' := 29) [(.getfield 145, 6, 5, 0, 0), (.aload_n 1, 0, 0, 0, 0), (.iload_n 2, 0, 0, 0, 0)] (by decide +kernel) rfl rfl ?_
      refine sCsI oI rfl (avs := [vl (rL μ 7 0 5), vr 24 a1, vi a2]) (rest := []) (tX4_placeOf_24 (rL μ 7 0 5) a1 a2 μ) (by decide) (by decide +kernel) lk_9_149 ys_X4_placeOf rfl rfl (Nat.le_of_ble_eq_true rfl) (fun x3 μ4 => ?_)
      refine sBk (lo' := [(3, vi x3), (0, vr 10 0), (1, vr 24 a1), (2, vi a2)]) (st' := [vi (-1), vi x3]) (μ' := μ4) (pc' := 35) [(.istore_n 3, 0, 0, 0, 0), (.iload_n 3, 0, 0, 0, 0), (.iconst (-1), 0, 0, (-1), 0)] (by decide +kernel) rfl rfl ?_
      refine sIc_ne oI (off := 12) (tgt := 47) (by decide +kernel) (by decide) (fun _ => ?_) (fun _ => ?_)
      · refine sBk (lo' := [(3, vi x3), (0, vr 10 0), (1, vr 24 a1), (2, vi a2)]) (st' := [vi x3, vi (rI μ4 10 0 3), vr 44 4]) (μ' := μ4) (pc' := 59) [(.aload_n 0, 0, 0, 0, 0), (.getfield 12, 9, 0, 0, 0), (.getfield 153, 8, 4, 0, 0), (.aload_n 0, 0, 0, 0, 0), (.getfield 66, 9, 3, 0, 0), (.iload_n 3, 0, 0, 0, 0)] (by decide +kernel) rfl rfl ?_
        refine sS_ias oI rfl (n := 60) (j := (ix (rI μ4 10 0 3))) (by decide +kernel) rfl rfl rfl (fun _ => ?_)
        refine sBk (lo' := [(3, vi x3), (0, vr 10 0), (1, vr 24 a1), (2, vi a2)]) (st' := [vr 10 0]) (μ' := wI μ4 44 4 (ix (rI μ4 10 0 3)) x3) (pc' := 61) [(.aload_n 0, 0, 0, 0, 0)] (by decide +kernel) rfl rfl ?_
        refine sCk oI rfl (fun h5 => ?_)
        refine sGr (idx := 22) (ci := 9) (sl := 1) (n := 0) (by decide +kernel) rfl rfl h5 ?_
        refine sCvV oI rfl (ci := 6) (q := (7, 0)) (avs := []) (rest := []) (tX6_advance (wI μ4 44 4 (ix (rI μ4 10 0 3)) x3)) (by decide) (by decide +kernel) lk_9_72 yv_X6_advance rfl (by decide) rfl rfl rfl (Nat.le_of_ble_eq_true rfl) (fun μ7 => ?_)
        refine sBk (lo' := [(3, vi x3), (0, vr 10 0), (1, vr 24 a1), (2, vi a2)]) (st' := [vi 1]) (μ' := μ7) (pc' := 68) [(.iconst 1, 0, 0, 1, 0)] (by decide +kernel) rfl rfl ?_
        exact sRi (by decide +kernel) (fun _ => Or.inr rfl)
      · refine sBk (lo' := [(3, vi x3), (0, vr 10 0), (1, vr 24 a1), (2, vi a2)]) (st' := [vr 10 0]) (μ' := μ4) (pc' := 39) [(.aload_n 0, 0, 0, 0, 0)] (by decide +kernel) rfl rfl ?_
        refine sCk oI rfl (fun h8 => ?_)
        refine sGr (idx := 22) (ci := 9) (sl := 1) (n := 0) (by decide +kernel) rfl rfl h8 ?_
        refine sBk (lo' := [(3, vi x3), (0, vr 10 0), (1, vr 24 a1), (2, vi a2)]) (st' := [vi 3, vr 7 0]) (μ' := μ4) (pc' := 43) [(.iconst 3, 0, 0, 3, 0)] (by decide +kernel) rfl rfl ?_
        refine sCvI oI rfl (ci := 6) (q := (7, 0)) (avs := [vi 3]) (rest := []) (tX6_fail 3 μ4) (by decide) (by decide +kernel) lk_9_82 yv_X6_fail rfl (by decide) rfl rfl rfl (Nat.le_of_ble_eq_true rfl) (fun x9 μ10 => ?_)
        exact sCk oI rfl (fun h => sRi (by decide +kernel) (fun _ => h))
    · refine sBk (lo' := [(0, vr 10 0), (1, vr 24 a1), (2, vi a2)]) (st' := [vr 10 0]) (μ' := μ) (pc' := 13) [(.aload_n 0, 0, 0, 0, 0)] (by decide +kernel) rfl rfl ?_
      refine sCk oI rfl (fun h11 => ?_)
      refine sGr (idx := 22) (ci := 9) (sl := 1) (n := 0) (by decide +kernel) rfl rfl h11 ?_
      refine sCvI oI rfl (ci := 6) (q := (7, 0)) (avs := []) (rest := []) (tX6_failToStand μ) (by decide) (by decide +kernel) lk_9_59 yv_X6_failToStand rfl (by decide) rfl rfl rfl (Nat.le_of_ble_eq_true rfl) (fun x12 μ13 => ?_)
      exact sCk oI rfl (fun h => sRi (by decide +kernel) (fun _ => h))
/-! ClockRiver$WeeksReader.takeName -/
def X9_takeName_50 (a1 : Nat) (a2 : Int32) (μ : sM) : Option (Int32 × sM) :=
  if (rR μ 10 0 1) = 1 then
    if (rI μ 7 0 4) = 27 then
      if (rR μ 10 0 1) = 1 then
        bI (X4_placeOf_50 (rL μ 7 0 5) a1 a2 μ) fun x3 μ4 =>
          if x3 = (-1) then
            if (rR μ4 10 0 1) = 1 then
              bI (X6_fail 3 μ4) fun x9 μ10 =>
                if x9 = 0 ∨ x9 = 1 then some (x9, μ10) else none
            else none
          else
            if inb (rI μ4 10 0 3) 60 = true then
              if (rR μ4 10 0 1) = 1 then
                bV (X6_advance (wI μ4 44 4 (ix (rI μ4 10 0 3)) x3)) fun μ7 =>
                  some (1, μ7)
              else none
            else none
      else none
    else
      if (rR μ 10 0 1) = 1 then
        bI (X6_failToStand μ) fun x12 μ13 =>
          if x12 = 0 ∨ x12 = 1 then some (x12, μ13) else none
      else none
  else none
theorem tX9_takeName_50 (a1 : Nat) (a2 : Int32) (μ : sM) : sMt yX9_takeName cX9_takeName 4 (some .boolean) 3 [vr 10 0, vr 50 a1, vi a2] μ (oI (X9_takeName_50 a1 a2 μ)) := by
  refine sMt_of (own := 9) (bl := true) (by decide +kernel) rfl (Nat.le_of_ble_eq_true rfl) (fun r ρ h => ?_) ?_
  · obtain ⟨q, -, hq⟩ := Option.map_eq_some_iff.mp h
    cases hq
    exact Or.inr ⟨rfl, rfl⟩
  · unfold X9_takeName_50
    show sOk 9 cX9_takeName 4 3 true 0 [(0, vr 10 0), (1, vr 50 a1), (2, vi a2)] [] μ _
    refine sBk (lo' := [(0, vr 10 0), (1, vr 50 a1), (2, vi a2)]) (st' := [vr 10 0]) (μ' := μ) (pc' := 1) [(.aload_n 0, 0, 0, 0, 0)] (by decide +kernel) rfl rfl ?_
    refine sCk oI rfl (fun h1 => ?_)
    refine sGr (idx := 22) (ci := 9) (sl := 1) (n := 0) (by decide +kernel) rfl rfl h1 ?_
    refine sBk (lo' := [(0, vr 10 0), (1, vr 50 a1), (2, vi a2)]) (st' := [vi 27, vi (rI μ 7 0 4)]) (μ' := μ) (pc' := 9) [(.getfield 41, 6, 4, 0, 0), (.bipush 27, 0, 0, 27, 0)] (by decide +kernel) rfl rfl ?_
    refine sIc_eq oI (off := 11) (tgt := 20) (by decide +kernel) (by decide) (fun _ => ?_) (fun _ => ?_)
    · refine sBk (lo' := [(0, vr 10 0), (1, vr 50 a1), (2, vi a2)]) (st' := [vr 10 0]) (μ' := μ) (pc' := 21) [(.aload_n 0, 0, 0, 0, 0)] (by decide +kernel) rfl rfl ?_
      refine sCk oI rfl (fun h2 => ?_)
      refine sGr (idx := 22) (ci := 9) (sl := 1) (n := 0) (by decide +kernel) rfl rfl h2 ?_
      refine sBk (lo' := [(0, vr 10 0), (1, vr 50 a1), (2, vi a2)]) (st' := [vi a2, vr 50 a1, vl (rL μ 7 0 5)]) (μ' := μ) (pc' := 29) [(.getfield 145, 6, 5, 0, 0), (.aload_n 1, 0, 0, 0, 0), (.iload_n 2, 0, 0, 0, 0)] (by decide +kernel) rfl rfl ?_
      refine sCsI oI rfl (avs := [vl (rL μ 7 0 5), vr 50 a1, vi a2]) (rest := []) (tX4_placeOf_50 (rL μ 7 0 5) a1 a2 μ) (by decide) (by decide +kernel) lk_9_149 ys_X4_placeOf rfl rfl (Nat.le_of_ble_eq_true rfl) (fun x3 μ4 => ?_)
      refine sBk (lo' := [(3, vi x3), (0, vr 10 0), (1, vr 50 a1), (2, vi a2)]) (st' := [vi (-1), vi x3]) (μ' := μ4) (pc' := 35) [(.istore_n 3, 0, 0, 0, 0), (.iload_n 3, 0, 0, 0, 0), (.iconst (-1), 0, 0, (-1), 0)] (by decide +kernel) rfl rfl ?_
      refine sIc_ne oI (off := 12) (tgt := 47) (by decide +kernel) (by decide) (fun _ => ?_) (fun _ => ?_)
      · refine sBk (lo' := [(3, vi x3), (0, vr 10 0), (1, vr 50 a1), (2, vi a2)]) (st' := [vi x3, vi (rI μ4 10 0 3), vr 44 4]) (μ' := μ4) (pc' := 59) [(.aload_n 0, 0, 0, 0, 0), (.getfield 12, 9, 0, 0, 0), (.getfield 153, 8, 4, 0, 0), (.aload_n 0, 0, 0, 0, 0), (.getfield 66, 9, 3, 0, 0), (.iload_n 3, 0, 0, 0, 0)] (by decide +kernel) rfl rfl ?_
        refine sS_ias oI rfl (n := 60) (j := (ix (rI μ4 10 0 3))) (by decide +kernel) rfl rfl rfl (fun _ => ?_)
        refine sBk (lo' := [(3, vi x3), (0, vr 10 0), (1, vr 50 a1), (2, vi a2)]) (st' := [vr 10 0]) (μ' := wI μ4 44 4 (ix (rI μ4 10 0 3)) x3) (pc' := 61) [(.aload_n 0, 0, 0, 0, 0)] (by decide +kernel) rfl rfl ?_
        refine sCk oI rfl (fun h5 => ?_)
        refine sGr (idx := 22) (ci := 9) (sl := 1) (n := 0) (by decide +kernel) rfl rfl h5 ?_
        refine sCvV oI rfl (ci := 6) (q := (7, 0)) (avs := []) (rest := []) (tX6_advance (wI μ4 44 4 (ix (rI μ4 10 0 3)) x3)) (by decide) (by decide +kernel) lk_9_72 yv_X6_advance rfl (by decide) rfl rfl rfl (Nat.le_of_ble_eq_true rfl) (fun μ7 => ?_)
        refine sBk (lo' := [(3, vi x3), (0, vr 10 0), (1, vr 50 a1), (2, vi a2)]) (st' := [vi 1]) (μ' := μ7) (pc' := 68) [(.iconst 1, 0, 0, 1, 0)] (by decide +kernel) rfl rfl ?_
        exact sRi (by decide +kernel) (fun _ => Or.inr rfl)
      · refine sBk (lo' := [(3, vi x3), (0, vr 10 0), (1, vr 50 a1), (2, vi a2)]) (st' := [vr 10 0]) (μ' := μ4) (pc' := 39) [(.aload_n 0, 0, 0, 0, 0)] (by decide +kernel) rfl rfl ?_
        refine sCk oI rfl (fun h8 => ?_)
        refine sGr (idx := 22) (ci := 9) (sl := 1) (n := 0) (by decide +kernel) rfl rfl h8 ?_
        refine sBk (lo' := [(3, vi x3), (0, vr 10 0), (1, vr 50 a1), (2, vi a2)]) (st' := [vi 3, vr 7 0]) (μ' := μ4) (pc' := 43) [(.iconst 3, 0, 0, 3, 0)] (by decide +kernel) rfl rfl ?_
        refine sCvI oI rfl (ci := 6) (q := (7, 0)) (avs := [vi 3]) (rest := []) (tX6_fail 3 μ4) (by decide) (by decide +kernel) lk_9_82 yv_X6_fail rfl (by decide) rfl rfl rfl (Nat.le_of_ble_eq_true rfl) (fun x9 μ10 => ?_)
        exact sCk oI rfl (fun h => sRi (by decide +kernel) (fun _ => h))
    · refine sBk (lo' := [(0, vr 10 0), (1, vr 50 a1), (2, vi a2)]) (st' := [vr 10 0]) (μ' := μ) (pc' := 13) [(.aload_n 0, 0, 0, 0, 0)] (by decide +kernel) rfl rfl ?_
      refine sCk oI rfl (fun h11 => ?_)
      refine sGr (idx := 22) (ci := 9) (sl := 1) (n := 0) (by decide +kernel) rfl rfl h11 ?_
      refine sCvI oI rfl (ci := 6) (q := (7, 0)) (avs := []) (rest := []) (tX6_failToStand μ) (by decide) (by decide +kernel) lk_9_59 yv_X6_failToStand rfl (by decide) rfl rfl rfl (Nat.le_of_ble_eq_true rfl) (fun x12 μ13 => ?_)
      exact sCk oI rfl (fun h => sRi (by decide +kernel) (fun _ => h))
/-! ClockRiver$WeeksReader.readWind -/
def X9_readWind (μ : sM) : Option (Int32 × sM) :=
  if (rR μ 10 0 2) = 1 then
    if (rR μ 10 0 2) = 1 then
      bI (X9_takeName_50 0 (rI μ 11 0 0) μ) fun x3 μ4 =>
        if x3 = 0 then
          some (0, μ4)
        else
          if (rR μ4 10 0 1) = 1 then
            if (rI μ4 7 0 4) = 16 then
              if inb (rI μ4 10 0 3) 60 = true then
                if (rR μ4 10 0 1) = 1 then
                  bV (X6_advance (wI μ4 45 4 (ix (rI μ4 10 0 3)) 1)) fun μ8 =>
                    some (1, μ8)
                else none
              else none
            else
              some (1, μ4)
          else none
    else none
  else none
theorem tX9_readWind (μ : sM) : sMt yX9_readWind cX9_readWind 1 (some .boolean) 4 [vr 10 0] μ (oI (X9_readWind μ)) := by
  refine sMt_of (own := 9) (bl := true) (by decide +kernel) rfl (Nat.le_of_ble_eq_true rfl) (fun r ρ h => ?_) ?_
  · obtain ⟨q, -, hq⟩ := Option.map_eq_some_iff.mp h
    cases hq
    exact Or.inr ⟨rfl, rfl⟩
  · unfold X9_readWind
    show sOk 9 cX9_readWind 1 4 true 0 [(0, vr 10 0)] [] μ _
    refine sBk (lo' := [(0, vr 10 0)]) (st' := [vr 10 0, vr 10 0]) (μ' := μ) (pc' := 2) [(.aload_n 0, 0, 0, 0, 0), (.aload_n 0, 0, 0, 0, 0)] (by decide +kernel) rfl rfl ?_
    refine sCk oI rfl (fun h1 => ?_)
    refine sGr (idx := 26) (ci := 9) (sl := 2) (n := 0) (by decide +kernel) rfl rfl h1 ?_
    refine sBk (lo' := [(0, vr 10 0)]) (st' := [vr 10 0, vr 50 0, vr 10 0]) (μ' := μ) (pc' := 12) [(.getfield 117, 4, 10, 0, 0), (.getfield 121, 10, 1, 0, 0), (.aload_n 0, 0, 0, 0, 0)] (by decide +kernel) rfl rfl ?_
    refine sCk oI rfl (fun h2 => ?_)
    refine sGr (idx := 26) (ci := 9) (sl := 2) (n := 0) (by decide +kernel) rfl rfl h2 ?_
    refine sBk (lo' := [(0, vr 10 0)]) (st' := [vi (rI μ 11 0 0), vr 50 0, vr 10 0]) (μ' := μ) (pc' := 21) [(.getfield 117, 4, 10, 0, 0), (.getfield 124, 10, 0, 0, 0)] (by decide +kernel) rfl rfl ?_
    refine sCvI oI rfl (ci := 9) (q := (10, 0)) (avs := [vr 50 0, vi (rI μ 11 0 0)]) (rest := []) (tX9_takeName_50 0 (rI μ 11 0 0) μ) (by decide) (by decide +kernel) lk_9_110 yv_X9_takeName rfl (by decide) rfl rfl rfl (Nat.le_of_ble_eq_true rfl) (fun x3 μ4 => ?_)
    refine sIf_ne oI (off := 5) (tgt := 29) (by decide +kernel) (by decide) (fun _ => ?_) (fun _ => ?_)
    · refine sBk (lo' := [(0, vr 10 0)]) (st' := [vr 10 0]) (μ' := μ4) (pc' := 30) [(.aload_n 0, 0, 0, 0, 0)] (by decide +kernel) rfl rfl ?_
      refine sCk oI rfl (fun h5 => ?_)
      refine sGr (idx := 22) (ci := 9) (sl := 1) (n := 0) (by decide +kernel) rfl rfl h5 ?_
      refine sBk (lo' := [(0, vr 10 0)]) (st' := [vi 16, vi (rI μ4 7 0 4)]) (μ' := μ4) (pc' := 38) [(.getfield 41, 6, 4, 0, 0), (.bipush 16, 0, 0, 16, 0)] (by decide +kernel) rfl rfl ?_
      refine sIc_ne oI (off := 23) (tgt := 61) (by decide +kernel) (by decide) (fun _ => ?_) (fun _ => ?_)
      · refine sBk (lo' := [(0, vr 10 0)]) (st' := [vi 1]) (μ' := μ4) (pc' := 62) [(.iconst 1, 0, 0, 1, 0)] (by decide +kernel) rfl rfl ?_
        exact sRi (by decide +kernel) (fun _ => Or.inr rfl)
      · refine sBk (lo' := [(0, vr 10 0)]) (st' := [vi 1, vi (rI μ4 10 0 3), vr 45 4]) (μ' := μ4) (pc' := 53) [(.aload_n 0, 0, 0, 0, 0), (.getfield 12, 9, 0, 0, 0), (.getfield 125, 8, 5, 0, 0), (.aload_n 0, 0, 0, 0, 0), (.getfield 66, 9, 3, 0, 0), (.iconst 1, 0, 0, 1, 0)] (by decide +kernel) rfl rfl ?_
        refine sS_ias oI rfl (n := 60) (j := (ix (rI μ4 10 0 3))) (by decide +kernel) rfl rfl rfl (fun _ => ?_)
        refine sBk (lo' := [(0, vr 10 0)]) (st' := [vr 10 0]) (μ' := wI μ4 45 4 (ix (rI μ4 10 0 3)) 1) (pc' := 55) [(.aload_n 0, 0, 0, 0, 0)] (by decide +kernel) rfl rfl ?_
        refine sCk oI rfl (fun h6 => ?_)
        refine sGr (idx := 22) (ci := 9) (sl := 1) (n := 0) (by decide +kernel) rfl rfl h6 ?_
        refine sCvV oI rfl (ci := 6) (q := (7, 0)) (avs := []) (rest := []) (tX6_advance (wI μ4 45 4 (ix (rI μ4 10 0 3)) 1)) (by decide) (by decide +kernel) lk_9_72 yv_X6_advance rfl (by decide) rfl rfl rfl (Nat.le_of_ble_eq_true rfl) (fun μ8 => ?_)
        refine sBk (lo' := [(0, vr 10 0)]) (st' := [vi 1]) (μ' := μ8) (pc' := 62) [(.iconst 1, 0, 0, 1, 0)] (by decide +kernel) rfl rfl ?_
        exact sRi (by decide +kernel) (fun _ => Or.inr rfl)
    · refine sBk (lo' := [(0, vr 10 0)]) (st' := [vi 0]) (μ' := μ4) (pc' := 28) [(.iconst 0, 0, 0, 0, 0)] (by decide +kernel) rfl rfl ?_
      exact sRi (by decide +kernel) (fun _ => Or.inl rfl)
/-! ClockRiver$WeeksReader.takeComparison -/
def X9_takeComparison_J26 (μ : sM) : Option (Int32 × sM) :=
  if (rR μ 10 0 1) = 1 then
    bI (X6_failToStand μ) fun x2 μ3 =>
      if x2 = 0 ∨ x2 = 1 then some (x2, μ3) else none
  else none
theorem X9_takeComparison_J26_ok (μ : sM) : sOk 9 cX9_takeComparison 1 3 true 26 [(0, vr 10 0)] [] μ (oI (X9_takeComparison_J26 μ)) := by
  unfold X9_takeComparison_J26
  refine sBk (lo' := [(0, vr 10 0)]) (st' := [vr 10 0]) (μ' := μ) (pc' := 27) [(.aload_n 0, 0, 0, 0, 0)] (by decide +kernel) rfl rfl ?_
  refine sCk oI rfl (fun h1 => ?_)
  refine sGr (idx := 22) (ci := 9) (sl := 1) (n := 0) (by decide +kernel) rfl rfl h1 ?_
  refine sCvI oI rfl (ci := 6) (q := (7, 0)) (avs := []) (rest := []) (tX6_failToStand μ) (by decide) (by decide +kernel) lk_9_59 yv_X6_failToStand rfl (by decide) rfl rfl rfl (Nat.le_of_ble_eq_true rfl) (fun x2 μ3 => ?_)
  exact sCk oI rfl (fun h => sRi (by decide +kernel) (fun _ => h))
def X9_takeComparison (μ : sM) : Option (Int32 × sM) :=
  if (rR μ 10 0 1) = 1 then
    if (rI μ 7 0 4) = 30 then
      if (rR μ 10 0 1) = 1 then
        if (lg_cmp (rL μ 7 0 5) 59) = 0 then
          X9_takeComparison_J26 μ
        else
          if (rR μ 10 0 1) = 1 then
            if inb (rI μ 10 0 3) 60 = true then
              if (rR μ 10 0 1) = 1 then
                bV (X6_advance (wI μ 47 4 (ix (rI μ 10 0 3)) (Int64.toInt32 (rL μ 7 0 5)))) fun μ6 =>
                  some (1, μ6)
              else none
            else none
          else none
      else none
    else
      X9_takeComparison_J26 μ
  else none
theorem tX9_takeComparison (μ : sM) : sMt yX9_takeComparison cX9_takeComparison 1 (some .boolean) 3 [vr 10 0] μ (oI (X9_takeComparison μ)) := by
  refine sMt_of (own := 9) (bl := true) (by decide +kernel) rfl (Nat.le_of_ble_eq_true rfl) (fun r ρ h => ?_) ?_
  · obtain ⟨q, -, hq⟩ := Option.map_eq_some_iff.mp h
    cases hq
    exact Or.inr ⟨rfl, rfl⟩
  · unfold X9_takeComparison
    show sOk 9 cX9_takeComparison 1 3 true 0 [(0, vr 10 0)] [] μ _
    refine sBk (lo' := [(0, vr 10 0)]) (st' := [vr 10 0]) (μ' := μ) (pc' := 1) [(.aload_n 0, 0, 0, 0, 0)] (by decide +kernel) rfl rfl ?_
    refine sCk oI rfl (fun h1 => ?_)
    refine sGr (idx := 22) (ci := 9) (sl := 1) (n := 0) (by decide +kernel) rfl rfl h1 ?_
    refine sBk (lo' := [(0, vr 10 0)]) (st' := [vi 30, vi (rI μ 7 0 4)]) (μ' := μ) (pc' := 9) [(.getfield 41, 6, 4, 0, 0), (.bipush 30, 0, 0, 30, 0)] (by decide +kernel) rfl rfl ?_
    refine sIc_ne oI (off := 17) (tgt := 26) (by decide +kernel) (by decide) (fun _ => ?_) (fun _ => ?_)
    · exact X9_takeComparison_J26_ok μ
    · refine sBk (lo' := [(0, vr 10 0)]) (st' := [vr 10 0]) (μ' := μ) (pc' := 13) [(.aload_n 0, 0, 0, 0, 0)] (by decide +kernel) rfl rfl ?_
      refine sCk oI rfl (fun h2 => ?_)
      refine sGr (idx := 22) (ci := 9) (sl := 1) (n := 0) (by decide +kernel) rfl rfl h2 ?_
      refine sBk (lo' := [(0, vr 10 0)]) (st' := [vi (lg_cmp (rL μ 7 0 5) 59)]) (μ' := μ) (pc' := 23) [(.getfield 145, 6, 5, 0, 0), (.ldc2_w 156, 0, 0, 0, 59), (.lcmp, 0, 0, 0, 0)] (by decide +kernel) rfl rfl ?_
      refine sIf_ne oI (off := 11) (tgt := 34) (by decide +kernel) (by decide) (fun _ => ?_) (fun _ => ?_)
      · refine sBk (lo' := [(0, vr 10 0)]) (st' := [vr 10 0, vi (rI μ 10 0 3), vr 47 4]) (μ' := μ) (pc' := 46) [(.aload_n 0, 0, 0, 0, 0), (.getfield 12, 9, 0, 0, 0), (.getfield 158, 8, 7, 0, 0), (.aload_n 0, 0, 0, 0, 0), (.getfield 66, 9, 3, 0, 0), (.aload_n 0, 0, 0, 0, 0)] (by decide +kernel) rfl rfl ?_
        refine sCk oI rfl (fun h3 => ?_)
        refine sGr (idx := 22) (ci := 9) (sl := 1) (n := 0) (by decide +kernel) rfl rfl h3 ?_
        refine sBk (lo' := [(0, vr 10 0)]) (st' := [vi (Int64.toInt32 (rL μ 7 0 5)), vi (rI μ 10 0 3), vr 47 4]) (μ' := μ) (pc' := 53) [(.getfield 145, 6, 5, 0, 0), (.l2i, 0, 0, 0, 0)] (by decide +kernel) rfl rfl ?_
        refine sS_ias oI rfl (n := 60) (j := (ix (rI μ 10 0 3))) (by decide +kernel) rfl rfl rfl (fun _ => ?_)
        refine sBk (lo' := [(0, vr 10 0)]) (st' := [vr 10 0]) (μ' := wI μ 47 4 (ix (rI μ 10 0 3)) (Int64.toInt32 (rL μ 7 0 5))) (pc' := 55) [(.aload_n 0, 0, 0, 0, 0)] (by decide +kernel) rfl rfl ?_
        refine sCk oI rfl (fun h4 => ?_)
        refine sGr (idx := 22) (ci := 9) (sl := 1) (n := 0) (by decide +kernel) rfl rfl h4 ?_
        refine sCvV oI rfl (ci := 6) (q := (7, 0)) (avs := []) (rest := []) (tX6_advance (wI μ 47 4 (ix (rI μ 10 0 3)) (Int64.toInt32 (rL μ 7 0 5)))) (by decide) (by decide +kernel) lk_9_72 yv_X6_advance rfl (by decide) rfl rfl rfl (Nat.le_of_ble_eq_true rfl) (fun μ6 => ?_)
        refine sBk (lo' := [(0, vr 10 0)]) (st' := [vi 1]) (μ' := μ6) (pc' := 62) [(.iconst 1, 0, 0, 1, 0)] (by decide +kernel) rfl rfl ?_
        exact sRi (by decide +kernel) (fun _ => Or.inr rfl)
      · exact X9_takeComparison_J26_ok μ
/-! ClockRiver$WeeksReader.readTest -/
def X9_readTest (μ : sM) : Option (Int32 × sM) :=
  if (rR μ 10 0 1) = 1 then
    if inb (rI μ 10 0 3) 60 = true then
      if (rR μ 10 0 1) = 1 then
        if (rI μ 7 0 4) = 21 then
          if (rR μ 10 0 1) = 1 then
            bV (X6_advance (wI μ 46 4 (ix (rI μ 10 0 3)) (rI μ 7 0 4))) fun μ5 =>
              if (rR μ5 10 0 2) = 1 then
                if (rR μ5 10 0 2) = 1 then
                  bI (X9_takeName_28 0 (rI μ5 4 0 0) μ5) fun x8 μ9 =>
                    if x8 = 0 then
                      some (0, μ9)
                    else
                      bI (X9_takeComparison μ9) fun x10 μ11 =>
                        if x10 = 0 then
                          some (0, μ11)
                        else
                          bI (X9_takeNumber 0 999 μ11) fun x12 μ13 =>
                            if x12 = 0 then
                              some (0, μ13)
                            else
                              some (1, μ13)
                else none
              else none
          else none
        else if (rI μ 7 0 4) = 22 then
          if (rR μ 10 0 1) = 1 then
            bV (X6_advance (wI μ 46 4 (ix (rI μ 10 0 3)) (rI μ 7 0 4))) fun μ16 =>
              if (rR μ16 10 0 2) = 1 then
                if (rR μ16 10 0 2) = 1 then
                  bI (X9_takeName_24 0 (rI μ16 3 0 0) μ16) fun x19 μ20 =>
                    if x19 = 0 then
                      some (0, μ20)
                    else
                      bI (X9_takeComparison μ20) fun x21 μ22 =>
                        if x21 = 0 then
                          some (0, μ22)
                        else
                          bI (X9_takeNumber 0 9999 μ22) fun x23 μ24 =>
                            if x23 = 0 then
                              some (0, μ24)
                            else
                              some (1, μ24)
                else none
              else none
          else none
        else
          if (rR μ 10 0 1) = 1 then
            bI (X6_takeWord 23 (wI μ 46 4 (ix (rI μ 10 0 3)) (rI μ 7 0 4))) fun x26 μ27 =>
              if x26 = 0 ∨ x26 = 1 then some (x26, μ27) else none
          else none
      else none
    else none
  else none
theorem tX9_readTest (μ : sM) : sMt yX9_readTest cX9_readTest 1 (some .boolean) 5 [vr 10 0] μ (oI (X9_readTest μ)) := by
  refine sMt_of (own := 9) (bl := true) (by decide +kernel) rfl (Nat.le_of_ble_eq_true rfl) (fun r ρ h => ?_) ?_
  · obtain ⟨q, -, hq⟩ := Option.map_eq_some_iff.mp h
    cases hq
    exact Or.inr ⟨rfl, rfl⟩
  · unfold X9_readTest
    show sOk 9 cX9_readTest 1 5 true 0 [(0, vr 10 0)] [] μ _
    refine sBk (lo' := [(0, vr 10 0)]) (st' := [vr 10 0, vi (rI μ 10 0 3), vr 46 4]) (μ' := μ) (pc' := 12) [(.aload_n 0, 0, 0, 0, 0), (.getfield 12, 9, 0, 0, 0), (.getfield 128, 8, 6, 0, 0), (.aload_n 0, 0, 0, 0, 0), (.getfield 66, 9, 3, 0, 0), (.aload_n 0, 0, 0, 0, 0)] (by decide +kernel) rfl rfl ?_
    refine sCk oI rfl (fun h1 => ?_)
    refine sGr (idx := 22) (ci := 9) (sl := 1) (n := 0) (by decide +kernel) rfl rfl h1 ?_
    refine sBk (lo' := [(0, vr 10 0)]) (st' := [vi (rI μ 7 0 4), vi (rI μ 10 0 3), vr 46 4]) (μ' := μ) (pc' := 18) [(.getfield 41, 6, 4, 0, 0)] (by decide +kernel) rfl rfl ?_
    refine sS_ias oI rfl (n := 60) (j := (ix (rI μ 10 0 3))) (by decide +kernel) rfl rfl rfl (fun _ => ?_)
    refine sBk (lo' := [(0, vr 10 0)]) (st' := [vr 10 0]) (μ' := wI μ 46 4 (ix (rI μ 10 0 3)) (rI μ 7 0 4)) (pc' := 20) [(.aload_n 0, 0, 0, 0, 0)] (by decide +kernel) rfl rfl ?_
    refine sCk oI rfl (fun h2 => ?_)
    refine sGr (idx := 22) (ci := 9) (sl := 1) (n := 0) (by decide +kernel) rfl rfl h2 ?_
    refine sBk (lo' := [(0, vr 10 0)]) (st' := [vi (rI μ 7 0 4)]) (μ' := wI μ 46 4 (ix (rI μ 10 0 3)) (rI μ 7 0 4)) (pc' := 26) [(.getfield 41, 6, 4, 0, 0)] (by decide +kernel) rfl rfl ?_
    refine sLu (ps := [(21, 52), (22, 110)]) (df := 168) (by decide +kernel) ?_
    refine sSc oI (fun _ => ?_) (fun _ => ?_)
    · refine sBk (lo' := [(0, vr 10 0)]) (st' := [vr 10 0]) (μ' := wI μ 46 4 (ix (rI μ 10 0 3)) (rI μ 7 0 4)) (pc' := 53) [(.aload_n 0, 0, 0, 0, 0)] (by decide +kernel) rfl rfl ?_
      refine sCk oI rfl (fun h3 => ?_)
      refine sGr (idx := 22) (ci := 9) (sl := 1) (n := 0) (by decide +kernel) rfl rfl h3 ?_
      refine sCvV oI rfl (ci := 6) (q := (7, 0)) (avs := []) (rest := []) (tX6_advance (wI μ 46 4 (ix (rI μ 10 0 3)) (rI μ 7 0 4))) (by decide) (by decide +kernel) lk_9_72 yv_X6_advance rfl (by decide) rfl rfl rfl (Nat.le_of_ble_eq_true rfl) (fun μ5 => ?_)
      refine sBk (lo' := [(0, vr 10 0)]) (st' := [vr 10 0, vr 10 0]) (μ' := μ5) (pc' := 61) [(.aload_n 0, 0, 0, 0, 0), (.aload_n 0, 0, 0, 0, 0)] (by decide +kernel) rfl rfl ?_
      refine sCk oI rfl (fun h6 => ?_)
      refine sGr (idx := 26) (ci := 9) (sl := 2) (n := 0) (by decide +kernel) rfl rfl h6 ?_
      refine sBk (lo' := [(0, vr 10 0)]) (st' := [vr 10 0, vr 28 0, vr 10 0]) (μ' := μ5) (pc' := 71) [(.getfield 95, 4, 8, 0, 0), (.getfield 101, 3, 1, 0, 0), (.aload_n 0, 0, 0, 0, 0)] (by decide +kernel) rfl rfl ?_
      refine sCk oI rfl (fun h7 => ?_)
      refine sGr (idx := 26) (ci := 9) (sl := 2) (n := 0) (by decide +kernel) rfl rfl h7 ?_
      refine sBk (lo' := [(0, vr 10 0)]) (st' := [vi (rI μ5 4 0 0), vr 28 0, vr 10 0]) (μ' := μ5) (pc' := 80) [(.getfield 95, 4, 8, 0, 0), (.getfield 107, 3, 0, 0, 0)] (by decide +kernel) rfl rfl ?_
      refine sCvI oI rfl (ci := 9) (q := (10, 0)) (avs := [vr 28 0, vi (rI μ5 4 0 0)]) (rest := []) (tX9_takeName_28 0 (rI μ5 4 0 0) μ5) (by decide) (by decide +kernel) lk_9_110 yv_X9_takeName rfl (by decide) rfl rfl rfl (Nat.le_of_ble_eq_true rfl) (fun x8 μ9 => ?_)
      refine sIf_eq oI (off := 25) (tgt := 108) (by decide +kernel) (by decide) (fun _ => ?_) (fun _ => ?_)
      · refine sBk (lo' := [(0, vr 10 0)]) (st' := [vi 0]) (μ' := μ9) (pc' := 109) [(.iconst 0, 0, 0, 0, 0)] (by decide +kernel) rfl rfl ?_
        exact sRi (by decide +kernel) (fun _ => Or.inl rfl)
      · refine sBk (lo' := [(0, vr 10 0)]) (st' := [vr 10 0]) (μ' := μ9) (pc' := 87) [(.aload_n 0, 0, 0, 0, 0)] (by decide +kernel) rfl rfl ?_
        refine sCvI oI rfl (ci := 9) (q := (10, 0)) (avs := []) (rest := []) (tX9_takeComparison μ9) (by decide) (by decide +kernel) lk_9_131 yv_X9_takeComparison rfl (by decide) rfl rfl rfl (Nat.le_of_ble_eq_true rfl) (fun x10 μ11 => ?_)
        refine sIf_eq oI (off := 18) (tgt := 108) (by decide +kernel) (by decide) (fun _ => ?_) (fun _ => ?_)
        · refine sBk (lo' := [(0, vr 10 0)]) (st' := [vi 0]) (μ' := μ11) (pc' := 109) [(.iconst 0, 0, 0, 0, 0)] (by decide +kernel) rfl rfl ?_
          exact sRi (by decide +kernel) (fun _ => Or.inl rfl)
        · refine sBk (lo' := [(0, vr 10 0)]) (st' := [vi 999, vi 0, vr 10 0]) (μ' := μ11) (pc' := 98) [(.aload_n 0, 0, 0, 0, 0), (.iconst 0, 0, 0, 0, 0), (.sipush 999, 0, 0, 999, 0)] (by decide +kernel) rfl rfl ?_
          refine sCvI oI rfl (ci := 9) (q := (10, 0)) (avs := [vi 0, vi 999]) (rest := []) (tX9_takeNumber 0 999 μ11) (by decide) (by decide +kernel) lk_9_88 yv_X9_takeNumber rfl (by decide) rfl rfl rfl (Nat.le_of_ble_eq_true rfl) (fun x12 μ13 => ?_)
          refine sIf_eq oI (off := 7) (tgt := 108) (by decide +kernel) (by decide) (fun _ => ?_) (fun _ => ?_)
          · refine sBk (lo' := [(0, vr 10 0)]) (st' := [vi 0]) (μ' := μ13) (pc' := 109) [(.iconst 0, 0, 0, 0, 0)] (by decide +kernel) rfl rfl ?_
            exact sRi (by decide +kernel) (fun _ => Or.inl rfl)
          · refine sBk (lo' := [(0, vr 10 0)]) (st' := [vi 1]) (μ' := μ13) (pc' := 105) [(.iconst 1, 0, 0, 1, 0)] (by decide +kernel) rfl rfl ?_
            refine sGt (off := 4) (tgt := 109) (by decide +kernel) (by decide) ?_
            exact sRi (by decide +kernel) (fun _ => Or.inr rfl)
    refine sSc oI (fun _ => ?_) (fun _ => ?_)
    · refine sBk (lo' := [(0, vr 10 0)]) (st' := [vr 10 0]) (μ' := wI μ 46 4 (ix (rI μ 10 0 3)) (rI μ 7 0 4)) (pc' := 111) [(.aload_n 0, 0, 0, 0, 0)] (by decide +kernel) rfl rfl ?_
      refine sCk oI rfl (fun h14 => ?_)
      refine sGr (idx := 22) (ci := 9) (sl := 1) (n := 0) (by decide +kernel) rfl rfl h14 ?_
      refine sCvV oI rfl (ci := 6) (q := (7, 0)) (avs := []) (rest := []) (tX6_advance (wI μ 46 4 (ix (rI μ 10 0 3)) (rI μ 7 0 4))) (by decide) (by decide +kernel) lk_9_72 yv_X6_advance rfl (by decide) rfl rfl rfl (Nat.le_of_ble_eq_true rfl) (fun μ16 => ?_)
      refine sBk (lo' := [(0, vr 10 0)]) (st' := [vr 10 0, vr 10 0]) (μ' := μ16) (pc' := 119) [(.aload_n 0, 0, 0, 0, 0), (.aload_n 0, 0, 0, 0, 0)] (by decide +kernel) rfl rfl ?_
      refine sCk oI rfl (fun h17 => ?_)
      refine sGr (idx := 26) (ci := 9) (sl := 2) (n := 0) (by decide +kernel) rfl rfl h17 ?_
      refine sBk (lo' := [(0, vr 10 0)]) (st' := [vr 10 0, vr 24 0, vr 10 0]) (μ' := μ16) (pc' := 129) [(.getfield 134, 4, 9, 0, 0), (.getfield 138, 2, 1, 0, 0), (.aload_n 0, 0, 0, 0, 0)] (by decide +kernel) rfl rfl ?_
      refine sCk oI rfl (fun h18 => ?_)
      refine sGr (idx := 26) (ci := 9) (sl := 2) (n := 0) (by decide +kernel) rfl rfl h18 ?_
      refine sBk (lo' := [(0, vr 10 0)]) (st' := [vi (rI μ16 3 0 0), vr 24 0, vr 10 0]) (μ' := μ16) (pc' := 138) [(.getfield 134, 4, 9, 0, 0), (.getfield 141, 2, 0, 0, 0)] (by decide +kernel) rfl rfl ?_
      refine sCvI oI rfl (ci := 9) (q := (10, 0)) (avs := [vr 24 0, vi (rI μ16 3 0 0)]) (rest := []) (tX9_takeName_24 0 (rI μ16 3 0 0) μ16) (by decide) (by decide +kernel) lk_9_110 yv_X9_takeName rfl (by decide) rfl rfl rfl (Nat.le_of_ble_eq_true rfl) (fun x19 μ20 => ?_)
      refine sIf_eq oI (off := 25) (tgt := 166) (by decide +kernel) (by decide) (fun _ => ?_) (fun _ => ?_)
      · refine sBk (lo' := [(0, vr 10 0)]) (st' := [vi 0]) (μ' := μ20) (pc' := 167) [(.iconst 0, 0, 0, 0, 0)] (by decide +kernel) rfl rfl ?_
        exact sRi (by decide +kernel) (fun _ => Or.inl rfl)
      · refine sBk (lo' := [(0, vr 10 0)]) (st' := [vr 10 0]) (μ' := μ20) (pc' := 145) [(.aload_n 0, 0, 0, 0, 0)] (by decide +kernel) rfl rfl ?_
        refine sCvI oI rfl (ci := 9) (q := (10, 0)) (avs := []) (rest := []) (tX9_takeComparison μ20) (by decide) (by decide +kernel) lk_9_131 yv_X9_takeComparison rfl (by decide) rfl rfl rfl (Nat.le_of_ble_eq_true rfl) (fun x21 μ22 => ?_)
        refine sIf_eq oI (off := 18) (tgt := 166) (by decide +kernel) (by decide) (fun _ => ?_) (fun _ => ?_)
        · refine sBk (lo' := [(0, vr 10 0)]) (st' := [vi 0]) (μ' := μ22) (pc' := 167) [(.iconst 0, 0, 0, 0, 0)] (by decide +kernel) rfl rfl ?_
          exact sRi (by decide +kernel) (fun _ => Or.inl rfl)
        · refine sBk (lo' := [(0, vr 10 0)]) (st' := [vi 9999, vi 0, vr 10 0]) (μ' := μ22) (pc' := 156) [(.aload_n 0, 0, 0, 0, 0), (.iconst 0, 0, 0, 0, 0), (.sipush 9999, 0, 0, 9999, 0)] (by decide +kernel) rfl rfl ?_
          refine sCvI oI rfl (ci := 9) (q := (10, 0)) (avs := [vi 0, vi 9999]) (rest := []) (tX9_takeNumber 0 9999 μ22) (by decide) (by decide +kernel) lk_9_88 yv_X9_takeNumber rfl (by decide) rfl rfl rfl (Nat.le_of_ble_eq_true rfl) (fun x23 μ24 => ?_)
          refine sIf_eq oI (off := 7) (tgt := 166) (by decide +kernel) (by decide) (fun _ => ?_) (fun _ => ?_)
          · refine sBk (lo' := [(0, vr 10 0)]) (st' := [vi 0]) (μ' := μ24) (pc' := 167) [(.iconst 0, 0, 0, 0, 0)] (by decide +kernel) rfl rfl ?_
            exact sRi (by decide +kernel) (fun _ => Or.inl rfl)
          · refine sBk (lo' := [(0, vr 10 0)]) (st' := [vi 1]) (μ' := μ24) (pc' := 163) [(.iconst 1, 0, 0, 1, 0)] (by decide +kernel) rfl rfl ?_
            refine sGt (off := 4) (tgt := 167) (by decide +kernel) (by decide) ?_
            exact sRi (by decide +kernel) (fun _ => Or.inr rfl)
    refine sSd ?_
    refine sBk (lo' := [(0, vr 10 0)]) (st' := [vr 10 0]) (μ' := wI μ 46 4 (ix (rI μ 10 0 3)) (rI μ 7 0 4)) (pc' := 169) [(.aload_n 0, 0, 0, 0, 0)] (by decide +kernel) rfl rfl ?_
    refine sCk oI rfl (fun h25 => ?_)
    refine sGr (idx := 22) (ci := 9) (sl := 1) (n := 0) (by decide +kernel) rfl rfl h25 ?_
    refine sBk (lo' := [(0, vr 10 0)]) (st' := [vi 23, vr 7 0]) (μ' := wI μ 46 4 (ix (rI μ 10 0 3)) (rI μ 7 0 4)) (pc' := 174) [(.bipush 23, 0, 0, 23, 0)] (by decide +kernel) rfl rfl ?_
    refine sCvI oI rfl (ci := 6) (q := (7, 0)) (avs := [vi 23]) (rest := []) (tX6_takeWord 23 (wI μ 46 4 (ix (rI μ 10 0 3)) (rI μ 7 0 4))) (by decide) (by decide +kernel) lk_9_142 yv_X6_takeWord rfl (by decide) rfl rfl rfl (Nat.le_of_ble_eq_true rfl) (fun x26 μ27 => ?_)
    exact sCk oI rfl (fun h => sRi (by decide +kernel) (fun _ => h))
/-! ClockRiver$WeeksReader.readRest -/
def X9_readRest (μ : sM) : Option (Int32 × sM) :=
  if inb (rI μ 10 0 3) 60 = true then
    if (rI μ 43 4 (ix (rI μ 10 0 3))) = 6 then
      if (rR μ 10 0 2) = 1 then
        if (rR μ 10 0 2) = 1 then
          bI (X9_takeName_28 0 (rI μ 4 0 0) μ) fun x3 μ4 =>
            if x3 = 0 then
              some (0, μ4)
            else
              bI (X9_takeNumber 0 99 μ4) fun x5 μ6 =>
                if x5 = 0 then
                  some (0, μ6)
                else
                  some (1, μ6)
        else none
      else none
    else if (rI μ 43 4 (ix (rI μ 10 0 3))) = 14 then
      bI (X9_takeNumber 1 24 μ) fun x7 μ8 =>
        if x7 = 0 ∨ x7 = 1 then some (x7, μ8) else none
    else if (rI μ 43 4 (ix (rI μ 10 0 3))) = 15 then
      bI (X9_readWind μ) fun x9 μ10 =>
        if x9 = 0 ∨ x9 = 1 then some (x9, μ10) else none
    else if (rI μ 43 4 (ix (rI μ 10 0 3))) = 20 then
      bI (X9_readTest μ) fun x11 μ12 =>
        if x11 = 0 ∨ x11 = 1 then some (x11, μ12) else none
    else if (rI μ 43 4 (ix (rI μ 10 0 3))) = 24 then
      bI (X9_takeNumber 1 99 μ) fun x13 μ14 =>
        if x13 = 0 ∨ x13 = 1 then some (x13, μ14) else none
    else
      some (1, μ)
  else none
theorem tX9_readRest (μ : sM) : sMt yX9_readRest cX9_readRest 1 (some .boolean) 6 [vr 10 0] μ (oI (X9_readRest μ)) := by
  refine sMt_of (own := 9) (bl := true) (by decide +kernel) rfl (Nat.le_of_ble_eq_true rfl) (fun r ρ h => ?_) ?_
  · obtain ⟨q, -, hq⟩ := Option.map_eq_some_iff.mp h
    cases hq
    exact Or.inr ⟨rfl, rfl⟩
  · unfold X9_readRest
    show sOk 9 cX9_readRest 1 6 true 0 [(0, vr 10 0)] [] μ _
    refine sBk (lo' := [(0, vr 10 0)]) (st' := [vi (rI μ 10 0 3), vr 43 4]) (μ' := μ) (pc' := 11) [(.aload_n 0, 0, 0, 0, 0), (.getfield 12, 9, 0, 0, 0), (.getfield 85, 8, 3, 0, 0), (.aload_n 0, 0, 0, 0, 0), (.getfield 66, 9, 3, 0, 0)] (by decide +kernel) rfl rfl ?_
    refine sS_ial oI rfl (n := 60) (j := (ix (rI μ 10 0 3))) (by decide +kernel) rfl rfl rfl (fun _ => ?_)
    refine sLu (ps := [(6, 77), (14, 64), (15, 72), (20, 120), (24, 125)]) (df := 133) (by decide +kernel) ?_
    refine sSc oI (fun _ => ?_) (fun _ => ?_)
    · refine sBk (lo' := [(0, vr 10 0)]) (st' := [vr 10 0, vr 10 0]) (μ' := μ) (pc' := 79) [(.aload_n 0, 0, 0, 0, 0), (.aload_n 0, 0, 0, 0, 0)] (by decide +kernel) rfl rfl ?_
      refine sCk oI rfl (fun h1 => ?_)
      refine sGr (idx := 26) (ci := 9) (sl := 2) (n := 0) (by decide +kernel) rfl rfl h1 ?_
      refine sBk (lo' := [(0, vr 10 0)]) (st' := [vr 10 0, vr 28 0, vr 10 0]) (μ' := μ) (pc' := 89) [(.getfield 95, 4, 8, 0, 0), (.getfield 101, 3, 1, 0, 0), (.aload_n 0, 0, 0, 0, 0)] (by decide +kernel) rfl rfl ?_
      refine sCk oI rfl (fun h2 => ?_)
      refine sGr (idx := 26) (ci := 9) (sl := 2) (n := 0) (by decide +kernel) rfl rfl h2 ?_
      refine sBk (lo' := [(0, vr 10 0)]) (st' := [vi (rI μ 4 0 0), vr 28 0, vr 10 0]) (μ' := μ) (pc' := 98) [(.getfield 95, 4, 8, 0, 0), (.getfield 107, 3, 0, 0, 0)] (by decide +kernel) rfl rfl ?_
      refine sCvI oI rfl (ci := 9) (q := (10, 0)) (avs := [vr 28 0, vi (rI μ 4 0 0)]) (rest := []) (tX9_takeName_28 0 (rI μ 4 0 0) μ) (by decide) (by decide +kernel) lk_9_110 yv_X9_takeName rfl (by decide) rfl rfl rfl (Nat.le_of_ble_eq_true rfl) (fun x3 μ4 => ?_)
      refine sIf_eq oI (off := 17) (tgt := 118) (by decide +kernel) (by decide) (fun _ => ?_) (fun _ => ?_)
      · refine sBk (lo' := [(0, vr 10 0)]) (st' := [vi 0]) (μ' := μ4) (pc' := 119) [(.iconst 0, 0, 0, 0, 0)] (by decide +kernel) rfl rfl ?_
        exact sRi (by decide +kernel) (fun _ => Or.inl rfl)
      · refine sBk (lo' := [(0, vr 10 0)]) (st' := [vi 99, vi 0, vr 10 0]) (μ' := μ4) (pc' := 108) [(.aload_n 0, 0, 0, 0, 0), (.iconst 0, 0, 0, 0, 0), (.bipush 99, 0, 0, 99, 0)] (by decide +kernel) rfl rfl ?_
        refine sCvI oI rfl (ci := 9) (q := (10, 0)) (avs := [vi 0, vi 99]) (rest := []) (tX9_takeNumber 0 99 μ4) (by decide) (by decide +kernel) lk_9_88 yv_X9_takeNumber rfl (by decide) rfl rfl rfl (Nat.le_of_ble_eq_true rfl) (fun x5 μ6 => ?_)
        refine sIf_eq oI (off := 7) (tgt := 118) (by decide +kernel) (by decide) (fun _ => ?_) (fun _ => ?_)
        · refine sBk (lo' := [(0, vr 10 0)]) (st' := [vi 0]) (μ' := μ6) (pc' := 119) [(.iconst 0, 0, 0, 0, 0)] (by decide +kernel) rfl rfl ?_
          exact sRi (by decide +kernel) (fun _ => Or.inl rfl)
        · refine sBk (lo' := [(0, vr 10 0)]) (st' := [vi 1]) (μ' := μ6) (pc' := 115) [(.iconst 1, 0, 0, 1, 0)] (by decide +kernel) rfl rfl ?_
          refine sGt (off := 4) (tgt := 119) (by decide +kernel) (by decide) ?_
          exact sRi (by decide +kernel) (fun _ => Or.inr rfl)
    refine sSc oI (fun _ => ?_) (fun _ => ?_)
    · refine sBk (lo' := [(0, vr 10 0)]) (st' := [vi 24, vi 1, vr 10 0]) (μ' := μ) (pc' := 68) [(.aload_n 0, 0, 0, 0, 0), (.iconst 1, 0, 0, 1, 0), (.bipush 24, 0, 0, 24, 0)] (by decide +kernel) rfl rfl ?_
      refine sCvI oI rfl (ci := 9) (q := (10, 0)) (avs := [vi 1, vi 24]) (rest := []) (tX9_takeNumber 1 24 μ) (by decide) (by decide +kernel) lk_9_88 yv_X9_takeNumber rfl (by decide) rfl rfl rfl (Nat.le_of_ble_eq_true rfl) (fun x7 μ8 => ?_)
      exact sCk oI rfl (fun h => sRi (by decide +kernel) (fun _ => h))
    refine sSc oI (fun _ => ?_) (fun _ => ?_)
    · refine sBk (lo' := [(0, vr 10 0)]) (st' := [vr 10 0]) (μ' := μ) (pc' := 73) [(.aload_n 0, 0, 0, 0, 0)] (by decide +kernel) rfl rfl ?_
      refine sCvI oI rfl (ci := 9) (q := (10, 0)) (avs := []) (rest := []) (tX9_readWind μ) (by decide) (by decide +kernel) lk_9_92 yv_X9_readWind rfl (by decide) rfl rfl rfl (Nat.le_of_ble_eq_true rfl) (fun x9 μ10 => ?_)
      exact sCk oI rfl (fun h => sRi (by decide +kernel) (fun _ => h))
    refine sSc oI (fun _ => ?_) (fun _ => ?_)
    · refine sBk (lo' := [(0, vr 10 0)]) (st' := [vr 10 0]) (μ' := μ) (pc' := 121) [(.aload_n 0, 0, 0, 0, 0)] (by decide +kernel) rfl rfl ?_
      refine sCvI oI rfl (ci := 9) (q := (10, 0)) (avs := []) (rest := []) (tX9_readTest μ) (by decide) (by decide +kernel) lk_9_114 yv_X9_readTest rfl (by decide) rfl rfl rfl (Nat.le_of_ble_eq_true rfl) (fun x11 μ12 => ?_)
      exact sCk oI rfl (fun h => sRi (by decide +kernel) (fun _ => h))
    refine sSc oI (fun _ => ?_) (fun _ => ?_)
    · refine sBk (lo' := [(0, vr 10 0)]) (st' := [vi 99, vi 1, vr 10 0]) (μ' := μ) (pc' := 129) [(.aload_n 0, 0, 0, 0, 0), (.iconst 1, 0, 0, 1, 0), (.bipush 99, 0, 0, 99, 0)] (by decide +kernel) rfl rfl ?_
      refine sCvI oI rfl (ci := 9) (q := (10, 0)) (avs := [vi 1, vi 99]) (rest := []) (tX9_takeNumber 1 99 μ) (by decide) (by decide +kernel) lk_9_88 yv_X9_takeNumber rfl (by decide) rfl rfl rfl (Nat.le_of_ble_eq_true rfl) (fun x13 μ14 => ?_)
      exact sCk oI rfl (fun h => sRi (by decide +kernel) (fun _ => h))
    refine sSd ?_
    refine sBk (lo' := [(0, vr 10 0)]) (st' := [vi 1]) (μ' := μ) (pc' := 134) [(.iconst 1, 0, 0, 1, 0)] (by decide +kernel) rfl rfl ?_
    exact sRi (by decide +kernel) (fun _ => Or.inr rfl)
/-! ClockRiver$WeeksReader.readFor -/
def X9_readFor_J81 (k32 : Int32 → sM → Option (Int32 × sM)) (v3 : Int32) (s0 : Int32) (μ : sM) : Option (Int32 × sM) :=
  if s0 = 0 then
    some (0, μ)
  else
    bI (X9_readRest μ) fun x1 μ2 =>
      if x1 = 0 then
        some (0, μ2)
      else
        if (rR μ2 10 0 1) = 1 then
          bI (X6_takeEnd μ2) fun x4 μ5 =>
            if x4 = 0 then
              some (0, μ5)
            else
              k32 (v3 + 1) μ5
        else none
theorem X9_readFor_J81_ok {k32 : Int32 → sM → Option (Int32 × sM)} (hk32 : ∀ (v3 : Int32) (μ : sM), sOk 9 cX9_readFor 5 7 true 32 [(0, vr 10 0), (3, vi v3)] [] μ (oI (k32 v3 μ))) (v3 : Int32) (s0 : Int32) (μ : sM) : sOk 9 cX9_readFor 5 7 true 81 [(0, vr 10 0), (3, vi v3)] [vi s0] μ (oI (X9_readFor_J81 k32 v3 s0 μ)) := by
  unfold X9_readFor_J81
  refine sBk (lo' := [(4, vi s0), (0, vr 10 0), (3, vi v3)]) (st' := [vi s0]) (μ' := μ) (pc' := 85) [(.istore 4, 0, 0, 0, 0), (.iload 4, 0, 0, 0, 0)] (by decide +kernel) rfl rfl ?_
  refine sIf_eq oI (off := 20) (tgt := 105) (by decide +kernel) (by decide) (fun _ => ?_) (fun _ => ?_)
  · refine sBk (lo' := [(4, vi s0), (0, vr 10 0), (3, vi v3)]) (st' := [vi 0]) (μ' := μ) (pc' := 106) [(.iconst 0, 0, 0, 0, 0)] (by decide +kernel) rfl rfl ?_
    exact sRi (by decide +kernel) (fun _ => Or.inl rfl)
  · refine sBk (lo' := [(4, vi s0), (0, vr 10 0), (3, vi v3)]) (st' := [vr 10 0]) (μ' := μ) (pc' := 89) [(.aload_n 0, 0, 0, 0, 0)] (by decide +kernel) rfl rfl ?_
    refine sCvI oI rfl (ci := 9) (q := (10, 0)) (avs := []) (rest := []) (tX9_readRest μ) (by decide) (by decide +kernel) lk_9_53 yv_X9_readRest rfl (by decide) rfl rfl rfl (Nat.le_of_ble_eq_true rfl) (fun x1 μ2 => ?_)
    refine sIf_eq oI (off := 13) (tgt := 105) (by decide +kernel) (by decide) (fun _ => ?_) (fun _ => ?_)
    · refine sBk (lo' := [(4, vi s0), (0, vr 10 0), (3, vi v3)]) (st' := [vi 0]) (μ' := μ2) (pc' := 106) [(.iconst 0, 0, 0, 0, 0)] (by decide +kernel) rfl rfl ?_
      exact sRi (by decide +kernel) (fun _ => Or.inl rfl)
    · refine sBk (lo' := [(4, vi s0), (0, vr 10 0), (3, vi v3)]) (st' := [vr 10 0]) (μ' := μ2) (pc' := 96) [(.aload_n 0, 0, 0, 0, 0)] (by decide +kernel) rfl rfl ?_
      refine sCk oI rfl (fun h3 => ?_)
      refine sGr (idx := 22) (ci := 9) (sl := 1) (n := 0) (by decide +kernel) rfl rfl h3 ?_
      refine sCvI oI rfl (ci := 6) (q := (7, 0)) (avs := []) (rest := []) (tX6_takeEnd μ2) (by decide) (by decide +kernel) lk_9_56 yv_X6_takeEnd rfl (by decide) rfl rfl rfl (Nat.le_of_ble_eq_true rfl) (fun x4 μ5 => ?_)
      refine sIf_ne oI (off := 5) (tgt := 107) (by decide +kernel) (by decide) (fun _ => ?_) (fun _ => ?_)
      · refine sBk (lo' := [(3, vi (v3 + 1)), (4, vi s0), (0, vr 10 0)]) (st' := []) (μ' := μ5) (pc' := 110) [(.iinc 3 1, 0, 0, 1, 0)] (by decide +kernel) rfl rfl ?_
        refine sGt (off := (-78)) (tgt := 32) (by decide +kernel) (by decide) ?_
        refine sWk (lo' := [(0, vr 10 0), (3, vi (v3 + 1))]) [2, 0] rfl ?_
        exact hk32 (v3 + 1) μ5
      · refine sBk (lo' := [(4, vi s0), (0, vr 10 0), (3, vi v3)]) (st' := [vi 0]) (μ' := μ5) (pc' := 106) [(.iconst 0, 0, 0, 0, 0)] (by decide +kernel) rfl rfl ?_
        exact sRi (by decide +kernel) (fun _ => Or.inl rfl)
def X9_readFor_J77 (k32 : Int32 → sM → Option (Int32 × sM)) (v3 : Int32) (μ : sM) : Option (Int32 × sM) :=
  bI (X9_beginStep μ) fun x1 μ2 =>
    X9_readFor_J81 k32 v3 x1 μ2
theorem X9_readFor_J77_ok {k32 : Int32 → sM → Option (Int32 × sM)} (hk32 : ∀ (v3 : Int32) (μ : sM), sOk 9 cX9_readFor 5 7 true 32 [(0, vr 10 0), (3, vi v3)] [] μ (oI (k32 v3 μ))) (v3 : Int32) (μ : sM) : sOk 9 cX9_readFor 5 7 true 77 [(0, vr 10 0), (3, vi v3)] [] μ (oI (X9_readFor_J77 k32 v3 μ)) := by
  unfold X9_readFor_J77
  refine sBk (lo' := [(0, vr 10 0), (3, vi v3)]) (st' := [vr 10 0]) (μ' := μ) (pc' := 78) [(.aload_n 0, 0, 0, 0, 0)] (by decide +kernel) rfl rfl ?_
  refine sCvI oI rfl (ci := 9) (q := (10, 0)) (avs := []) (rest := []) (tX9_beginStep μ) (by decide) (by decide +kernel) lk_9_50 yv_X9_beginStep rfl (by decide) rfl rfl rfl (Nat.le_of_ble_eq_true rfl) (fun x1 μ2 => ?_)
  exact X9_readFor_J81_ok hk32 v3 x1 μ2
def X9_readFor_J113 (μ : sM) : Option (Int32 × sM) :=
  if (rI μ 10 0 4) = 0 then
    some (1, μ)
  else
    if (rR μ 10 0 1) = 1 then
      bI (X6_failToStand μ) fun x2 μ3 =>
        if x2 = 0 then
          some (0, μ3)
        else
          some (1, μ3)
    else none
theorem X9_readFor_J113_ok (μ : sM) : sOk 9 cX9_readFor 5 7 true 113 [(0, vr 10 0)] [] μ (oI (X9_readFor_J113 μ)) := by
  unfold X9_readFor_J113
  refine sBk (lo' := [(0, vr 10 0)]) (st' := [vi (rI μ 10 0 4)]) (μ' := μ) (pc' := 117) [(.aload_n 0, 0, 0, 0, 0), (.getfield 30, 9, 4, 0, 0)] (by decide +kernel) rfl rfl ?_
  refine sIf_eq oI (off := 13) (tgt := 130) (by decide +kernel) (by decide) (fun _ => ?_) (fun _ => ?_)
  · refine sBk (lo' := [(0, vr 10 0)]) (st' := [vi 1]) (μ' := μ) (pc' := 131) [(.iconst 1, 0, 0, 1, 0)] (by decide +kernel) rfl rfl ?_
    refine sGt (off := 4) (tgt := 135) (by decide +kernel) (by decide) ?_
    exact sRi (by decide +kernel) (fun _ => Or.inr rfl)
  · refine sBk (lo' := [(0, vr 10 0)]) (st' := [vr 10 0]) (μ' := μ) (pc' := 121) [(.aload_n 0, 0, 0, 0, 0)] (by decide +kernel) rfl rfl ?_
    refine sCk oI rfl (fun h1 => ?_)
    refine sGr (idx := 22) (ci := 9) (sl := 1) (n := 0) (by decide +kernel) rfl rfl h1 ?_
    refine sCvI oI rfl (ci := 6) (q := (7, 0)) (avs := []) (rest := []) (tX6_failToStand μ) (by decide) (by decide +kernel) lk_9_59 yv_X6_failToStand rfl (by decide) rfl rfl rfl (Nat.le_of_ble_eq_true rfl) (fun x2 μ3 => ?_)
    refine sIf_eq oI (off := 7) (tgt := 134) (by decide +kernel) (by decide) (fun _ => ?_) (fun _ => ?_)
    · refine sBk (lo' := [(0, vr 10 0)]) (st' := [vi 0]) (μ' := μ3) (pc' := 135) [(.iconst 0, 0, 0, 0, 0)] (by decide +kernel) rfl rfl ?_
      exact sRi (by decide +kernel) (fun _ => Or.inl rfl)
    · refine sBk (lo' := [(0, vr 10 0)]) (st' := [vi 1]) (μ' := μ3) (pc' := 131) [(.iconst 1, 0, 0, 1, 0)] (by decide +kernel) rfl rfl ?_
      refine sGt (off := 4) (tgt := 135) (by decide +kernel) (by decide) ?_
      exact sRi (by decide +kernel) (fun _ => Or.inr rfl)
def X9_readFor_L32 : Nat → Int32 → sM → Option (Int32 × sM)
  | 0, _, _ => none
  | n + 1, v3, μ =>
    if 300 ≤ v3 then
      X9_readFor_J113 μ
    else
      if (rR μ 10 0 1) = 1 then
        if (rI μ 7 0 4) = 32 then
          X9_readFor_J113 μ
        else
          if (rR μ 10 0 1) = 1 then
            if (rI μ 7 0 4) = 25 then
              if (rI μ 10 0 4) ≤ 0 then
                X9_readFor_J77 (X9_readFor_L32 n) v3 μ
              else
                bI (X9_beginEnd μ) fun x3 μ4 =>
                  X9_readFor_J81 (X9_readFor_L32 n) v3 x3 μ4
            else
              X9_readFor_J77 (X9_readFor_L32 n) v3 μ
          else none
      else none
theorem X9_readFor_L32_ok : ∀ (n : Nat) (v3 : Int32) (μ : sM), sOk 9 cX9_readFor 5 7 true 32 [(0, vr 10 0), (3, vi v3)] [] μ (oI (X9_readFor_L32 n v3 μ)) := by
  intro n
  induction n with
  | zero =>
    intros
    exact sNo
  | succ n ih =>
    intro v3 μ
    unfold X9_readFor_L32
    refine sBk (lo' := [(0, vr 10 0), (3, vi v3)]) (st' := [vi 300, vi v3]) (μ' := μ) (pc' := 36) [(.iload_n 3, 0, 0, 0, 0), (.sipush 300, 0, 0, 300, 0)] (by decide +kernel) rfl rfl ?_
    refine sIc_ge oI (off := 77) (tgt := 113) (by decide +kernel) (by decide) (fun _ => ?_) (fun _ => ?_)
    · refine sWk (lo' := [(0, vr 10 0)]) [0] rfl ?_
      exact X9_readFor_J113_ok μ
    · refine sBk (lo' := [(0, vr 10 0), (3, vi v3)]) (st' := [vr 10 0]) (μ' := μ) (pc' := 40) [(.aload_n 0, 0, 0, 0, 0)] (by decide +kernel) rfl rfl ?_
      refine sCk oI rfl (fun h1 => ?_)
      refine sGr (idx := 22) (ci := 9) (sl := 1) (n := 0) (by decide +kernel) rfl rfl h1 ?_
      refine sBk (lo' := [(0, vr 10 0), (3, vi v3)]) (st' := [vi 32, vi (rI μ 7 0 4)]) (μ' := μ) (pc' := 48) [(.getfield 41, 6, 4, 0, 0), (.bipush 32, 0, 0, 32, 0)] (by decide +kernel) rfl rfl ?_
      refine sIc_eq oI (off := 65) (tgt := 113) (by decide +kernel) (by decide) (fun _ => ?_) (fun _ => ?_)
      · refine sWk (lo' := [(0, vr 10 0)]) [0] rfl ?_
        exact X9_readFor_J113_ok μ
      · refine sBk (lo' := [(0, vr 10 0), (3, vi v3)]) (st' := [vr 10 0]) (μ' := μ) (pc' := 52) [(.aload_n 0, 0, 0, 0, 0)] (by decide +kernel) rfl rfl ?_
        refine sCk oI rfl (fun h2 => ?_)
        refine sGr (idx := 22) (ci := 9) (sl := 1) (n := 0) (by decide +kernel) rfl rfl h2 ?_
        refine sBk (lo' := [(0, vr 10 0), (3, vi v3)]) (st' := [vi 25, vi (rI μ 7 0 4)]) (μ' := μ) (pc' := 60) [(.getfield 41, 6, 4, 0, 0), (.bipush 25, 0, 0, 25, 0)] (by decide +kernel) rfl rfl ?_
        refine sIc_ne oI (off := 17) (tgt := 77) (by decide +kernel) (by decide) (fun _ => ?_) (fun _ => ?_)
        · exact X9_readFor_J77_ok ih v3 μ
        · refine sBk (lo' := [(0, vr 10 0), (3, vi v3)]) (st' := [vi (rI μ 10 0 4)]) (μ' := μ) (pc' := 67) [(.aload_n 0, 0, 0, 0, 0), (.getfield 30, 9, 4, 0, 0)] (by decide +kernel) rfl rfl ?_
          refine sIf_le oI (off := 10) (tgt := 77) (by decide +kernel) (by decide) (fun _ => ?_) (fun _ => ?_)
          · exact X9_readFor_J77_ok ih v3 μ
          · refine sBk (lo' := [(0, vr 10 0), (3, vi v3)]) (st' := [vr 10 0]) (μ' := μ) (pc' := 71) [(.aload_n 0, 0, 0, 0, 0)] (by decide +kernel) rfl rfl ?_
            refine sCvI oI rfl (ci := 9) (q := (10, 0)) (avs := []) (rest := []) (tX9_beginEnd μ) (by decide) (by decide +kernel) lk_9_46 yv_X9_beginEnd rfl (by decide) rfl rfl rfl (Nat.le_of_ble_eq_true rfl) (fun x3 μ4 => ?_)
            refine sGt (off := 7) (tgt := 81) (by decide +kernel) (by decide) ?_
            exact X9_readFor_J81_ok ih v3 x3 μ4
def X9_readFor (a2 : Nat) (μ : sM) : Option (Int32 × sM) :=
  bV (X8_forget 4 (wI (wR (wR μ 10 0 1 (0 + 1)) 10 0 2 (a2 + 1)) 10 0 4 0)) fun μ2 =>
    X9_readFor_L32 fuN 0 (wI μ2 9 4 0 1)
theorem tX9_readFor (a2 : Nat) (μ : sM) : sMt yX9_readFor cX9_readFor 5 (some .boolean) 7 [vr 10 0, vr 7 0, vr 5 a2] μ (oI (X9_readFor a2 μ)) := by
  refine sMt_of (own := 9) (bl := true) (by decide +kernel) rfl (Nat.le_of_ble_eq_true rfl) (fun r ρ h => ?_) ?_
  · obtain ⟨q, -, hq⟩ := Option.map_eq_some_iff.mp h
    cases hq
    exact Or.inr ⟨rfl, rfl⟩
  · unfold X9_readFor
    show sOk 9 cX9_readFor 5 7 true 0 [(0, vr 10 0), (1, vr 7 0), (2, vr 5 a2)] [] μ _
    refine sBk (lo' := [(0, vr 10 0), (1, vr 7 0), (2, vr 5 a2)]) (st' := [vr 9 4]) (μ' := wI (wR (wR μ 10 0 1 (0 + 1)) 10 0 2 (a2 + 1)) 10 0 4 0) (pc' := 19) [(.aload_n 0, 0, 0, 0, 0), (.aload_n 1, 0, 0, 0, 0), (.putfield 22, 9, 1, 0, 0), (.aload_n 0, 0, 0, 0, 0), (.aload_n 2, 0, 0, 0, 0), (.putfield 26, 9, 2, 0, 0), (.aload_n 0, 0, 0, 0, 0), (.iconst 0, 0, 0, 0, 0), (.putfield 30, 9, 4, 0, 0), (.aload_n 0, 0, 0, 0, 0), (.getfield 12, 9, 0, 0, 0)] (by decide +kernel) rfl rfl ?_
    refine sCvV oI rfl (ci := 8) (q := (9, 4)) (avs := []) (rest := []) (tX8_forget 4 (wI (wR (wR μ 10 0 1 (0 + 1)) 10 0 2 (a2 + 1)) 10 0 4 0)) (by decide) (by decide +kernel) lk_9_34 yv_X8_forget rfl (by decide) rfl rfl rfl (Nat.le_of_ble_eq_true rfl) (fun μ2 => ?_)
    refine sBk (lo' := [(3, vi 0), (0, vr 10 0), (1, vr 7 0), (2, vr 5 a2)]) (st' := []) (μ' := wI μ2 9 4 0 1) (pc' := 32) [(.aload_n 0, 0, 0, 0, 0), (.getfield 12, 9, 0, 0, 0), (.iconst 1, 0, 0, 1, 0), (.putfield 37, 8, 0, 0, 0), (.iconst 0, 0, 0, 0, 0), (.istore_n 3, 0, 0, 0, 0)] (by decide +kernel) rfl rfl ?_
    refine sWk (lo' := [(0, vr 10 0), (3, vi 0)]) [1, 0] rfl ?_
    exact X9_readFor_L32_ok fuN 0 (wI μ2 9 4 0 1)
