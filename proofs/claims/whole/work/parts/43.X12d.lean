theorem lk_12_308 : Cond.methodLink (kRn 12) 308 yX12_readTest ∈ sT := sT_in (n := 1864) (by decide +kernel) rfl
theorem lk_12_314 : Cond.methodLink (kRn 12) 314 yX12_readRest ∈ sT := sT_in (n := 1860) (by decide +kernel) rfl
theorem lk_12_317 : Cond.methodLink (kRn 12) 317 yX12_readStep ∈ sT := sT_in (n := 1856) (by decide +kernel) rfl
theorem lk_12_320 : Cond.methodLink (kRn 12) 320 yX12_sumOf ∈ sT := sT_in (n := 1881) (by decide +kernel) rfl
theorem lk_12_325 : Cond.methodLink (kRn 12) 325 yX12_refuse ∈ sT := sT_in (n := 1873) (by decide +kernel) rfl
theorem lk_12_328 : Cond.methodLink (kRn 12) 328 yX12_day ∈ sT := sT_in (n := 1877) (by decide +kernel) rfl
theorem lk_12_331 : Cond.methodLink (kRn 12) 331 yX12_allGround ∈ sT := sT_in (n := 1885) (by decide +kernel) rfl
theorem yv_X12_allGround : yV yX12_allGround cX12_allGround 1 (some .int) 0 := ⟨⟨sT_in (n := 1888) (by decide +kernel) rfl, sT_in (n := 149) (by decide +kernel) rfl, by decide +kernel, by decide⟩, sT_in (n := 1887) (by decide +kernel) rfl, sT_in (n := 98) (by decide +kernel) rfl⟩
theorem yv_X12_day : yV yX12_day cX12_day 1 (some .int) 0 := ⟨⟨sT_in (n := 1880) (by decide +kernel) rfl, sT_in (n := 149) (by decide +kernel) rfl, by decide +kernel, by decide⟩, sT_in (n := 1879) (by decide +kernel) rfl, sT_in (n := 96) (by decide +kernel) rfl⟩
theorem yv_X12_readRest : yV yX12_readRest cX12_readRest 3 none 1 := ⟨⟨sT_in (n := 1863) (by decide +kernel) rfl, sT_in (n := 149) (by decide +kernel) rfl, by decide +kernel, by decide⟩, sT_in (n := 1862) (by decide +kernel) rfl, sT_in (n := 93) (by decide +kernel) rfl⟩
theorem yv_X12_readStep : yV yX12_readStep cX12_readStep 5 none 1 := ⟨⟨sT_in (n := 1859) (by decide +kernel) rfl, sT_in (n := 149) (by decide +kernel) rfl, by decide +kernel, by decide⟩, sT_in (n := 1858) (by decide +kernel) rfl, sT_in (n := 92) (by decide +kernel) rfl⟩
theorem yv_X12_readTest : yV yX12_readTest cX12_readTest 3 none 1 := ⟨⟨sT_in (n := 1867) (by decide +kernel) rfl, sT_in (n := 149) (by decide +kernel) rfl, by decide +kernel, by decide⟩, sT_in (n := 1866) (by decide +kernel) rfl, sT_in (n := 94) (by decide +kernel) rfl⟩
theorem yv_X12_refuse : yV yX12_refuse cX12_refuse 2 (some .int) 1 := ⟨⟨sT_in (n := 1876) (by decide +kernel) rfl, sT_in (n := 149) (by decide +kernel) rfl, by decide +kernel, by decide⟩, sT_in (n := 1875) (by decide +kernel) rfl, sT_in (n := 95) (by decide +kernel) rfl⟩
theorem yv_X12_sumOf : yV yX12_sumOf cX12_sumOf 5 (some .int) 2 := ⟨⟨sT_in (n := 1884) (by decide +kernel) rfl, sT_in (n := 149) (by decide +kernel) rfl, by decide +kernel, by decide⟩, sT_in (n := 1883) (by decide +kernel) rfl, sT_in (n := 97) (by decide +kernel) rfl⟩
/-! ClockRiverModel.readTest -/
def X12_readTest_J138 (s0 : Int32) (s1 : Int32) (s3 : Int32) (μ : sM) : Option sM :=
  bI (X12_count s1 s0 μ) fun x1 μ2 =>
    if inb s3 1740 = true then
      some (wI μ2 61 0 (ix s3) x1)
    else none
theorem X12_readTest_J138_ok (s0 : Int32) (s1 : Int32) (s3 : Int32) (μ : sM) : sOk 12 cX12_readTest 3 7 false 138 [] [vi s0, vi s1, vr 13 0, vi s3, vr 61 0] μ (oV (X12_readTest_J138 s0 s1 s3 μ)) := by
  unfold X12_readTest_J138
  refine sCvI oV rfl (ci := 12) (q := (13, 0)) (avs := [vi s1, vi s0]) (rest := [vi s3, vr 61 0]) (tX12_count s1 s0 μ) (by decide) (by decide +kernel) lk_12_238 yv_X12_count rfl (by decide) rfl rfl rfl (Nat.le_of_ble_eq_true rfl) (fun x1 μ2 => ?_)
  refine sS_ias oV rfl (n := 1740) (j := (ix s3)) (by decide +kernel) rfl rfl rfl (fun _ => ?_)
  exact sRv (by decide +kernel)
def X12_readTest_J113 (v1 : Int32) (v2 : Int32) (s0 : Int32) (μ : sM) : Option sM :=
  bV (X12_must s0 μ) fun μ2 =>
    if v2 = 0 then
      X12_readTest_J138 999 0 (v1 + 2) μ2
    else
      X12_readTest_J138 9999 0 (v1 + 2) μ2
theorem X12_readTest_J113_ok (v1 : Int32) (v2 : Int32) (s0 : Int32) (μ : sM) : sOk 12 cX12_readTest 3 7 false 113 [(0, vr 13 0), (1, vi v1), (2, vi v2)] [vi s0, vr 13 0] μ (oV (X12_readTest_J113 v1 v2 s0 μ)) := by
  unfold X12_readTest_J113
  refine sCvV oV rfl (ci := 12) (q := (13, 0)) (avs := [vi s0]) (rest := []) (tX12_must s0 μ) (by decide) (by decide +kernel) lk_12_234 yv_X12_must rfl (by decide) rfl rfl rfl (Nat.le_of_ble_eq_true rfl) (fun μ2 => ?_)
  refine sBk (lo' := [(0, vr 13 0), (1, vi v1), (2, vi v2)]) (st' := [vi v2, vi 0, vr 13 0, vi (v1 + 2), vr 61 0]) (μ' := μ2) (pc' := 126) [(.aload_n 0, 0, 0, 0, 0), (.getfield 35, 12, 20, 0, 0), (.iload_n 1, 0, 0, 0, 0), (.iconst 2, 0, 0, 2, 0), (.iadd, 0, 0, 0, 0), (.aload_n 0, 0, 0, 0, 0), (.iconst 0, 0, 0, 0, 0), (.iload_n 2, 0, 0, 0, 0)] (by decide +kernel) rfl rfl ?_
  refine sIf_ne oV (off := 9) (tgt := 135) (by decide +kernel) (by decide) (fun _ => ?_) (fun _ => ?_)
  · refine sBk (lo' := [(0, vr 13 0), (1, vi v1), (2, vi v2)]) (st' := [vi 9999, vi 0, vr 13 0, vi (v1 + 2), vr 61 0]) (μ' := μ2) (pc' := 138) [(.sipush 9999, 0, 0, 9999, 0)] (by decide +kernel) rfl rfl ?_
    refine sWk (lo' := []) [] rfl ?_
    exact X12_readTest_J138_ok 9999 0 (v1 + 2) μ2
  · refine sBk (lo' := [(0, vr 13 0), (1, vi v1), (2, vi v2)]) (st' := [vi 999, vi 0, vr 13 0, vi (v1 + 2), vr 61 0]) (μ' := μ2) (pc' := 132) [(.sipush 999, 0, 0, 999, 0)] (by decide +kernel) rfl rfl ?_
    refine sGt (off := 6) (tgt := 138) (by decide +kernel) (by decide) ?_
    refine sWk (lo' := []) [] rfl ?_
    exact X12_readTest_J138_ok 999 0 (v1 + 2) μ2
def X12_readTest_J108 (v1 : Int32) (v2 : Int32) (μ : sM) : Option sM :=
  X12_readTest_J113 v1 v2 1 μ
theorem X12_readTest_J108_ok (v1 : Int32) (v2 : Int32) (μ : sM) : sOk 12 cX12_readTest 3 7 false 108 [(0, vr 13 0), (1, vi v1), (2, vi v2)] [vr 13 0] μ (oV (X12_readTest_J108 v1 v2 μ)) := by
  unfold X12_readTest_J108
  refine sBk (lo' := [(0, vr 13 0), (1, vi v1), (2, vi v2)]) (st' := [vi 1, vr 13 0]) (μ' := μ) (pc' := 109) [(.iconst 1, 0, 0, 1, 0)] (by decide +kernel) rfl rfl ?_
  refine sGt (off := 4) (tgt := 113) (by decide +kernel) (by decide) ?_
  exact X12_readTest_J113_ok v1 v2 1 μ
def X12_readTest_J79 (v1 : Int32) (v2 : Int32) (s0 : Int32) (s1 : Int32) (μ : sM) : Option sM :=
  if inb s1 1740 = true then
    bI (X12_isSign 60 (wI μ 61 0 (ix s1) s0)) fun x1 μ2 =>
      if x1 = 0 then
        bI (X12_isSign 62 μ2) fun x3 μ4 =>
          if x3 = 0 then
            bI (X12_isSign 61 μ4) fun x5 μ6 =>
              if x5 = 0 then
                X12_readTest_J113 v1 v2 0 μ6
              else
                X12_readTest_J108 v1 v2 μ6
          else
            X12_readTest_J108 v1 v2 μ4
      else
        X12_readTest_J108 v1 v2 μ2
  else none
theorem X12_readTest_J79_ok (v1 : Int32) (v2 : Int32) (s0 : Int32) (s1 : Int32) (μ : sM) : sOk 12 cX12_readTest 3 7 false 79 [(0, vr 13 0), (1, vi v1), (2, vi v2)] [vi s0, vi s1, vr 61 0] μ (oV (X12_readTest_J79 v1 v2 s0 s1 μ)) := by
  unfold X12_readTest_J79
  refine sS_ias oV rfl (n := 1740) (j := (ix s1)) (by decide +kernel) rfl rfl rfl (fun _ => ?_)
  refine sBk (lo' := [(0, vr 13 0), (1, vi v1), (2, vi v2)]) (st' := [vi 60, vr 13 0, vr 13 0]) (μ' := wI μ 61 0 (ix s1) s0) (pc' := 84) [(.aload_n 0, 0, 0, 0, 0), (.aload_n 0, 0, 0, 0, 0), (.bipush 60, 0, 0, 60, 0)] (by decide +kernel) rfl rfl ?_
  refine sCvI oV rfl (ci := 12) (q := (13, 0)) (avs := [vi 60]) (rest := [vr 13 0]) (tX12_isSign 60 (wI μ 61 0 (ix s1) s0)) (by decide) (by decide +kernel) lk_12_299 yv_X12_isSign rfl (by decide) rfl rfl rfl (Nat.le_of_ble_eq_true rfl) (fun x1 μ2 => ?_)
  refine sIf_ne oV (off := 21) (tgt := 108) (by decide +kernel) (by decide) (fun _ => ?_) (fun _ => ?_)
  · exact X12_readTest_J108_ok v1 v2 μ2
  · refine sBk (lo' := [(0, vr 13 0), (1, vi v1), (2, vi v2)]) (st' := [vi 62, vr 13 0, vr 13 0]) (μ' := μ2) (pc' := 93) [(.aload_n 0, 0, 0, 0, 0), (.bipush 62, 0, 0, 62, 0)] (by decide +kernel) rfl rfl ?_
    refine sCvI oV rfl (ci := 12) (q := (13, 0)) (avs := [vi 62]) (rest := [vr 13 0]) (tX12_isSign 62 μ2) (by decide) (by decide +kernel) lk_12_299 yv_X12_isSign rfl (by decide) rfl rfl rfl (Nat.le_of_ble_eq_true rfl) (fun x3 μ4 => ?_)
    refine sIf_ne oV (off := 12) (tgt := 108) (by decide +kernel) (by decide) (fun _ => ?_) (fun _ => ?_)
    · exact X12_readTest_J108_ok v1 v2 μ4
    · refine sBk (lo' := [(0, vr 13 0), (1, vi v1), (2, vi v2)]) (st' := [vi 61, vr 13 0, vr 13 0]) (μ' := μ4) (pc' := 102) [(.aload_n 0, 0, 0, 0, 0), (.bipush 61, 0, 0, 61, 0)] (by decide +kernel) rfl rfl ?_
      refine sCvI oV rfl (ci := 12) (q := (13, 0)) (avs := [vi 61]) (rest := [vr 13 0]) (tX12_isSign 61 μ4) (by decide) (by decide +kernel) lk_12_299 yv_X12_isSign rfl (by decide) rfl rfl rfl (Nat.le_of_ble_eq_true rfl) (fun x5 μ6 => ?_)
      refine sIf_eq oV (off := 7) (tgt := 112) (by decide +kernel) (by decide) (fun _ => ?_) (fun _ => ?_)
      · refine sBk (lo' := [(0, vr 13 0), (1, vi v1), (2, vi v2)]) (st' := [vi 0, vr 13 0]) (μ' := μ6) (pc' := 113) [(.iconst 0, 0, 0, 0, 0)] (by decide +kernel) rfl rfl ?_
        exact X12_readTest_J113_ok v1 v2 0 μ6
      · exact X12_readTest_J108_ok v1 v2 μ6
def X12_readTest_J15 (v1 : Int32) (v2 : Int32) (s0 : Int32) (μ : sM) : Option sM :=
  bV (X12_must s0 μ) fun μ2 =>
    if inb (v1 + 6) 1740 = true then
      if 0 < (rI μ2 13 0 12) then
        some (wI μ2 61 0 (ix (v1 + 6)) v2)
      else
        if v2 = 2 then
          some (wI μ2 61 0 (ix (v1 + 6)) v2)
        else
          bI (X12_readTold 0 v2 (wI μ2 61 0 (ix (v1 + 6)) v2)) fun x3 μ4 =>
            if inb (v1 + 1) 1740 = true then
              if (rI μ4 13 0 14) = 3 then
                X12_readTest_J79 v1 v2 (rI μ4 13 0 17) (v1 + 7) (wI μ4 61 0 (ix (v1 + 1)) x3)
              else
                X12_readTest_J79 v1 v2 0 (v1 + 7) (wI μ4 61 0 (ix (v1 + 1)) x3)
            else none
    else none
theorem X12_readTest_J15_ok (v1 : Int32) (v2 : Int32) (s0 : Int32) (μ : sM) : sOk 12 cX12_readTest 3 7 false 15 [(0, vr 13 0), (1, vi v1), (2, vi v2)] [vi s0, vr 13 0] μ (oV (X12_readTest_J15 v1 v2 s0 μ)) := by
  unfold X12_readTest_J15
  refine sCvV oV rfl (ci := 12) (q := (13, 0)) (avs := [vi s0]) (rest := []) (tX12_must s0 μ) (by decide) (by decide +kernel) lk_12_234 yv_X12_must rfl (by decide) rfl rfl rfl (Nat.le_of_ble_eq_true rfl) (fun μ2 => ?_)
  refine sBk (lo' := [(0, vr 13 0), (1, vi v1), (2, vi v2)]) (st' := [vi v2, vi (v1 + 6), vr 61 0]) (μ' := μ2) (pc' := 27) [(.aload_n 0, 0, 0, 0, 0), (.getfield 35, 12, 20, 0, 0), (.iload_n 1, 0, 0, 0, 0), (.bipush 6, 0, 0, 6, 0), (.iadd, 0, 0, 0, 0), (.iload_n 2, 0, 0, 0, 0)] (by decide +kernel) rfl rfl ?_
  refine sS_ias oV rfl (n := 1740) (j := (ix (v1 + 6))) (by decide +kernel) rfl rfl rfl (fun _ => ?_)
  refine sBk (lo' := [(0, vr 13 0), (1, vi v1), (2, vi v2)]) (st' := [vi (rI μ2 13 0 12)]) (μ' := wI μ2 61 0 (ix (v1 + 6)) v2) (pc' := 32) [(.aload_n 0, 0, 0, 0, 0), (.getfield 218, 12, 12, 0, 0)] (by decide +kernel) rfl rfl ?_
  refine sIf_gt oV (off := 8) (tgt := 40) (by decide +kernel) (by decide) (fun _ => ?_) (fun _ => ?_)
  · exact sRv (by decide +kernel)
  · refine sBk (lo' := [(0, vr 13 0), (1, vi v1), (2, vi v2)]) (st' := [vi 2, vi v2]) (μ' := wI μ2 61 0 (ix (v1 + 6)) v2) (pc' := 37) [(.iload_n 2, 0, 0, 0, 0), (.iconst 2, 0, 0, 2, 0)] (by decide +kernel) rfl rfl ?_
    refine sIc_ne oV (off := 4) (tgt := 41) (by decide +kernel) (by decide) (fun _ => ?_) (fun _ => ?_)
    · refine sBk (lo' := [(0, vr 13 0), (1, vi v1), (2, vi v2)]) (st' := [vi v2, vi 0, vr 13 0, vi (v1 + 1), vr 61 0]) (μ' := wI μ2 61 0 (ix (v1 + 6)) v2) (pc' := 51) [(.aload_n 0, 0, 0, 0, 0), (.getfield 35, 12, 20, 0, 0), (.iload_n 1, 0, 0, 0, 0), (.iconst 1, 0, 0, 1, 0), (.iadd, 0, 0, 0, 0), (.aload_n 0, 0, 0, 0, 0), (.iconst 0, 0, 0, 0, 0), (.iload_n 2, 0, 0, 0, 0)] (by decide +kernel) rfl rfl ?_
      refine sCvI oV rfl (ci := 12) (q := (13, 0)) (avs := [vi 0, vi v2]) (rest := [vi (v1 + 1), vr 61 0]) (tX12_readTold 0 v2 (wI μ2 61 0 (ix (v1 + 6)) v2)) (by decide) (by decide +kernel) lk_12_277 yv_X12_readTold rfl (by decide) rfl rfl rfl (Nat.le_of_ble_eq_true rfl) (fun x3 μ4 => ?_)
      refine sS_ias oV rfl (n := 1740) (j := (ix (v1 + 1))) (by decide +kernel) rfl rfl rfl (fun _ => ?_)
      refine sBk (lo' := [(0, vr 13 0), (1, vi v1), (2, vi v2)]) (st' := [vi 3, vi (rI μ4 13 0 14), vi (v1 + 7), vr 61 0]) (μ' := wI μ4 61 0 (ix (v1 + 1)) x3) (pc' := 68) [(.aload_n 0, 0, 0, 0, 0), (.getfield 35, 12, 20, 0, 0), (.iload_n 1, 0, 0, 0, 0), (.bipush 7, 0, 0, 7, 0), (.iadd, 0, 0, 0, 0), (.aload_n 0, 0, 0, 0, 0), (.getfield 123, 12, 14, 0, 0), (.iconst 3, 0, 0, 3, 0)] (by decide +kernel) rfl rfl ?_
      refine sIc_ne oV (off := 10) (tgt := 78) (by decide +kernel) (by decide) (fun _ => ?_) (fun _ => ?_)
      · refine sBk (lo' := [(0, vr 13 0), (1, vi v1), (2, vi v2)]) (st' := [vi 0, vi (v1 + 7), vr 61 0]) (μ' := wI μ4 61 0 (ix (v1 + 1)) x3) (pc' := 79) [(.iconst 0, 0, 0, 0, 0)] (by decide +kernel) rfl rfl ?_
        exact X12_readTest_J79_ok v1 v2 0 (v1 + 7) (wI μ4 61 0 (ix (v1 + 1)) x3)
      · refine sBk (lo' := [(0, vr 13 0), (1, vi v1), (2, vi v2)]) (st' := [vi (rI μ4 13 0 17), vi (v1 + 7), vr 61 0]) (μ' := wI μ4 61 0 (ix (v1 + 1)) x3) (pc' := 75) [(.aload_n 0, 0, 0, 0, 0), (.getfield 142, 12, 17, 0, 0)] (by decide +kernel) rfl rfl ?_
        refine sGt (off := 4) (tgt := 79) (by decide +kernel) (by decide) ?_
        exact X12_readTest_J79_ok v1 v2 (rI μ4 13 0 17) (v1 + 7) (wI μ4 61 0 (ix (v1 + 1)) x3)
    · exact sRv (by decide +kernel)
def X12_readTest (a1 : Int32) (μ : sM) : Option sM :=
  bI (X12_testWord μ) fun x1 μ2 =>
    if x1 < 0 then
      X12_readTest_J15 a1 x1 0 μ2
    else
      X12_readTest_J15 a1 x1 1 μ2
theorem tX12_readTest (a1 : Int32) (μ : sM) : sMt yX12_readTest cX12_readTest 3 none 7 [vr 13 0, vi a1] μ (oV (X12_readTest a1 μ)) := by
  refine sMt_of (own := 12) (bl := false) (by decide +kernel) rfl (Nat.le_of_ble_eq_true rfl) (fun r ρ h => ?_) ?_
  · obtain ⟨q, -, hq⟩ := Option.map_eq_some_iff.mp h
    cases hq
    exact rfl
  · unfold X12_readTest
    show sOk 12 cX12_readTest 3 7 false 0 [(0, vr 13 0), (1, vi a1)] [] μ _
    refine sBk (lo' := [(0, vr 13 0), (1, vi a1)]) (st' := [vr 13 0]) (μ' := μ) (pc' := 1) [(.aload_n 0, 0, 0, 0, 0)] (by decide +kernel) rfl rfl ?_
    refine sCvI oV rfl (ci := 12) (q := (13, 0)) (avs := []) (rest := []) (tX12_testWord μ) (by decide) (by decide +kernel) lk_12_209 yv_X12_testWord rfl (by decide) rfl rfl rfl (Nat.le_of_ble_eq_true rfl) (fun x1 μ2 => ?_)
    refine sBk (lo' := [(2, vi x1), (0, vr 13 0), (1, vi a1)]) (st' := [vi x1, vr 13 0]) (μ' := μ2) (pc' := 7) [(.istore_n 2, 0, 0, 0, 0), (.aload_n 0, 0, 0, 0, 0), (.iload_n 2, 0, 0, 0, 0)] (by decide +kernel) rfl rfl ?_
    refine sIf_lt oV (off := 7) (tgt := 14) (by decide +kernel) (by decide) (fun _ => ?_) (fun _ => ?_)
    · refine sBk (lo' := [(2, vi x1), (0, vr 13 0), (1, vi a1)]) (st' := [vi 0, vr 13 0]) (μ' := μ2) (pc' := 15) [(.iconst 0, 0, 0, 0, 0)] (by decide +kernel) rfl rfl ?_
      refine sWk (lo' := [(0, vr 13 0), (1, vi a1), (2, vi x1)]) [1, 2, 0] rfl ?_
      exact X12_readTest_J15_ok a1 x1 0 μ2
    · refine sBk (lo' := [(2, vi x1), (0, vr 13 0), (1, vi a1)]) (st' := [vi 1, vr 13 0]) (μ' := μ2) (pc' := 11) [(.iconst 1, 0, 0, 1, 0)] (by decide +kernel) rfl rfl ?_
      refine sGt (off := 4) (tgt := 15) (by decide +kernel) (by decide) ?_
      refine sWk (lo' := [(0, vr 13 0), (1, vi a1), (2, vi x1)]) [1, 2, 0] rfl ?_
      exact X12_readTest_J15_ok a1 x1 1 μ2
/-! ClockRiverModel.readRest -/
def X12_readRest_J109 (s0 : Int32) (s1 : Int32) (μ : sM) : Option sM :=
  if inb s1 1740 = true then
    some (wI μ 61 0 (ix s1) s0)
  else none
theorem X12_readRest_J109_ok (s0 : Int32) (s1 : Int32) (μ : sM) : sOk 12 cX12_readRest 3 8 false 109 [] [vi s0, vi s1, vr 61 0] μ (oV (X12_readRest_J109 s0 s1 μ)) := by
  unfold X12_readRest_J109
  refine sS_ias oV rfl (n := 1740) (j := (ix s1)) (by decide +kernel) rfl rfl rfl (fun _ => ?_)
  refine sGt (off := 37) (tgt := 147) (by decide +kernel) (by decide) ?_
  exact sRv (by decide +kernel)
def X12_readRest (a1 : Int32) (μ : sM) : Option sM :=
  if inb a1 1740 = true then
    if (rI μ 61 0 (ix a1)) = 0 then
      bI (X12_count 1 24 μ) fun x15 μ16 =>
        if inb (a1 + 1) 1740 = true then
          some (wI μ16 61 0 (ix (a1 + 1)) x15)
        else none
    else
      if (rI μ 61 0 (ix a1)) = 8 then
        bI (X12_count 1 99 μ) fun x13 μ14 =>
          if inb (a1 + 1) 1740 = true then
            some (wI μ14 61 0 (ix (a1 + 1)) x13)
          else none
      else
        if (rI μ 61 0 (ix a1)) = 7 then
          bV (X12_readTest a1 μ) fun μ12 =>
            some μ12
        else
          if (rI μ 61 0 (ix a1)) = 1 then
            bI (X12_readTold 0 2 μ) fun x5 μ6 =>
              if inb (a1 + 1) 1740 = true then
                bI (X12_isBack (wI μ6 61 0 (ix (a1 + 1)) x5)) fun x7 μ8 =>
                  bI (X12_perhaps x7 μ8) fun x9 μ10 =>
                    if x9 = 0 then
                      X12_readRest_J109 0 (a1 + 2) μ10
                    else
                      X12_readRest_J109 1 (a1 + 2) μ10
              else none
          else
            if (rI μ 61 0 (ix a1)) = 3 then
              bI (X12_readTold 0 0 μ) fun x1 μ2 =>
                if inb (a1 + 1) 1740 = true then
                  bI (X12_count 0 99 (wI μ2 61 0 (ix (a1 + 1)) x1)) fun x3 μ4 =>
                    if inb (a1 + 2) 1740 = true then
                      some (wI μ4 61 0 (ix (a1 + 2)) x3)
                    else none
                else none
            else
              some μ
  else none
theorem tX12_readRest (a1 : Int32) (μ : sM) : sMt yX12_readRest cX12_readRest 3 none 8 [vr 13 0, vi a1] μ (oV (X12_readRest a1 μ)) := by
  refine sMt_of (own := 12) (bl := false) (by decide +kernel) rfl (Nat.le_of_ble_eq_true rfl) (fun r ρ h => ?_) ?_
  · obtain ⟨q, -, hq⟩ := Option.map_eq_some_iff.mp h
    cases hq
    exact rfl
  · unfold X12_readRest
    show sOk 12 cX12_readRest 3 8 false 0 [(0, vr 13 0), (1, vi a1)] [] μ _
    refine sBk (lo' := [(0, vr 13 0), (1, vi a1)]) (st' := [vi a1, vr 61 0]) (μ' := μ) (pc' := 5) [(.aload_n 0, 0, 0, 0, 0), (.getfield 35, 12, 20, 0, 0), (.iload_n 1, 0, 0, 0, 0)] (by decide +kernel) rfl rfl ?_
    refine sS_ial oV rfl (n := 1740) (j := (ix a1)) (by decide +kernel) rfl rfl rfl (fun _ => ?_)
    refine sBk (lo' := [(2, vi (rI μ 61 0 (ix a1))), (0, vr 13 0), (1, vi a1)]) (st' := [vi (rI μ 61 0 (ix a1))]) (μ' := μ) (pc' := 8) [(.istore_n 2, 0, 0, 0, 0), (.iload_n 2, 0, 0, 0, 0)] (by decide +kernel) rfl rfl ?_
    refine sIf_ne oV (off := 21) (tgt := 29) (by decide +kernel) (by decide) (fun _ => ?_) (fun _ => ?_)
    · refine sBk (lo' := [(2, vi (rI μ 61 0 (ix a1))), (0, vr 13 0), (1, vi a1)]) (st' := [vi 8, vi (rI μ 61 0 (ix a1))]) (μ' := μ) (pc' := 32) [(.iload_n 2, 0, 0, 0, 0), (.bipush 8, 0, 0, 8, 0)] (by decide +kernel) rfl rfl ?_
      refine sIc_ne oV (off := 21) (tgt := 53) (by decide +kernel) (by decide) (fun _ => ?_) (fun _ => ?_)
      · refine sBk (lo' := [(2, vi (rI μ 61 0 (ix a1))), (0, vr 13 0), (1, vi a1)]) (st' := [vi 7, vi (rI μ 61 0 (ix a1))]) (μ' := μ) (pc' := 56) [(.iload_n 2, 0, 0, 0, 0), (.bipush 7, 0, 0, 7, 0)] (by decide +kernel) rfl rfl ?_
        refine sIc_ne oV (off := 11) (tgt := 67) (by decide +kernel) (by decide) (fun _ => ?_) (fun _ => ?_)
        · refine sBk (lo' := [(2, vi (rI μ 61 0 (ix a1))), (0, vr 13 0), (1, vi a1)]) (st' := [vi 1, vi (rI μ 61 0 (ix a1))]) (μ' := μ) (pc' := 69) [(.iload_n 2, 0, 0, 0, 0), (.iconst 1, 0, 0, 1, 0)] (by decide +kernel) rfl rfl ?_
          refine sIc_ne oV (off := 44) (tgt := 113) (by decide +kernel) (by decide) (fun _ => ?_) (fun _ => ?_)
          · refine sBk (lo' := [(2, vi (rI μ 61 0 (ix a1))), (0, vr 13 0), (1, vi a1)]) (st' := [vi 3, vi (rI μ 61 0 (ix a1))]) (μ' := μ) (pc' := 115) [(.iload_n 2, 0, 0, 0, 0), (.iconst 3, 0, 0, 3, 0)] (by decide +kernel) rfl rfl ?_
            refine sIc_ne oV (off := 32) (tgt := 147) (by decide +kernel) (by decide) (fun _ => ?_) (fun _ => ?_)
            · exact sRv (by decide +kernel)
            · refine sBk (lo' := [(2, vi (rI μ 61 0 (ix a1))), (0, vr 13 0), (1, vi a1)]) (st' := [vi 0, vi 0, vr 13 0, vi (a1 + 1), vr 61 0]) (μ' := μ) (pc' := 128) [(.aload_n 0, 0, 0, 0, 0), (.getfield 35, 12, 20, 0, 0), (.iload_n 1, 0, 0, 0, 0), (.iconst 1, 0, 0, 1, 0), (.iadd, 0, 0, 0, 0), (.aload_n 0, 0, 0, 0, 0), (.iconst 0, 0, 0, 0, 0), (.iconst 0, 0, 0, 0, 0)] (by decide +kernel) rfl rfl ?_
              refine sCvI oV rfl (ci := 12) (q := (13, 0)) (avs := [vi 0, vi 0]) (rest := [vi (a1 + 1), vr 61 0]) (tX12_readTold 0 0 μ) (by decide) (by decide +kernel) lk_12_277 yv_X12_readTold rfl (by decide) rfl rfl rfl (Nat.le_of_ble_eq_true rfl) (fun x1 μ2 => ?_)
              refine sS_ias oV rfl (n := 1740) (j := (ix (a1 + 1))) (by decide +kernel) rfl rfl rfl (fun _ => ?_)
              refine sBk (lo' := [(2, vi (rI μ 61 0 (ix a1))), (0, vr 13 0), (1, vi a1)]) (st' := [vi 99, vi 0, vr 13 0, vi (a1 + 2), vr 61 0]) (μ' := wI μ2 61 0 (ix (a1 + 1)) x1) (pc' := 143) [(.aload_n 0, 0, 0, 0, 0), (.getfield 35, 12, 20, 0, 0), (.iload_n 1, 0, 0, 0, 0), (.iconst 2, 0, 0, 2, 0), (.iadd, 0, 0, 0, 0), (.aload_n 0, 0, 0, 0, 0), (.iconst 0, 0, 0, 0, 0), (.bipush 99, 0, 0, 99, 0)] (by decide +kernel) rfl rfl ?_
              refine sCvI oV rfl (ci := 12) (q := (13, 0)) (avs := [vi 0, vi 99]) (rest := [vi (a1 + 2), vr 61 0]) (tX12_count 0 99 (wI μ2 61 0 (ix (a1 + 1)) x1)) (by decide) (by decide +kernel) lk_12_238 yv_X12_count rfl (by decide) rfl rfl rfl (Nat.le_of_ble_eq_true rfl) (fun x3 μ4 => ?_)
              refine sS_ias oV rfl (n := 1740) (j := (ix (a1 + 2))) (by decide +kernel) rfl rfl rfl (fun _ => ?_)
              exact sRv (by decide +kernel)
          · refine sBk (lo' := [(2, vi (rI μ 61 0 (ix a1))), (0, vr 13 0), (1, vi a1)]) (st' := [vi 2, vi 0, vr 13 0, vi (a1 + 1), vr 61 0]) (μ' := μ) (pc' := 82) [(.aload_n 0, 0, 0, 0, 0), (.getfield 35, 12, 20, 0, 0), (.iload_n 1, 0, 0, 0, 0), (.iconst 1, 0, 0, 1, 0), (.iadd, 0, 0, 0, 0), (.aload_n 0, 0, 0, 0, 0), (.iconst 0, 0, 0, 0, 0), (.iconst 2, 0, 0, 2, 0)] (by decide +kernel) rfl rfl ?_
            refine sCvI oV rfl (ci := 12) (q := (13, 0)) (avs := [vi 0, vi 2]) (rest := [vi (a1 + 1), vr 61 0]) (tX12_readTold 0 2 μ) (by decide) (by decide +kernel) lk_12_277 yv_X12_readTold rfl (by decide) rfl rfl rfl (Nat.le_of_ble_eq_true rfl) (fun x5 μ6 => ?_)
            refine sS_ias oV rfl (n := 1740) (j := (ix (a1 + 1))) (by decide +kernel) rfl rfl rfl (fun _ => ?_)
            refine sBk (lo' := [(2, vi (rI μ 61 0 (ix a1))), (0, vr 13 0), (1, vi a1)]) (st' := [vr 13 0, vr 13 0, vi (a1 + 2), vr 61 0]) (μ' := wI μ6 61 0 (ix (a1 + 1)) x5) (pc' := 95) [(.aload_n 0, 0, 0, 0, 0), (.getfield 35, 12, 20, 0, 0), (.iload_n 1, 0, 0, 0, 0), (.iconst 2, 0, 0, 2, 0), (.iadd, 0, 0, 0, 0), (.aload_n 0, 0, 0, 0, 0), (.aload_n 0, 0, 0, 0, 0)] (by decide +kernel) rfl rfl ?_
            refine sCvI oV rfl (ci := 12) (q := (13, 0)) (avs := []) (rest := [vr 13 0, vi (a1 + 2), vr 61 0]) (tX12_isBack (wI μ6 61 0 (ix (a1 + 1)) x5)) (by decide) (by decide +kernel) lk_12_202 yv_X12_isBack rfl (by decide) rfl rfl rfl (Nat.le_of_ble_eq_true rfl) (fun x7 μ8 => ?_)
            refine sCvI oV rfl (ci := 12) (q := (13, 0)) (avs := [vi x7]) (rest := [vi (a1 + 2), vr 61 0]) (tX12_perhaps x7 μ8) (by decide) (by decide +kernel) lk_12_273 yv_X12_perhaps rfl (by decide) rfl rfl rfl (Nat.le_of_ble_eq_true rfl) (fun x9 μ10 => ?_)
            refine sIf_eq oV (off := 7) (tgt := 108) (by decide +kernel) (by decide) (fun _ => ?_) (fun _ => ?_)
            · refine sBk (lo' := [(2, vi (rI μ 61 0 (ix a1))), (0, vr 13 0), (1, vi a1)]) (st' := [vi 0, vi (a1 + 2), vr 61 0]) (μ' := μ10) (pc' := 109) [(.iconst 0, 0, 0, 0, 0)] (by decide +kernel) rfl rfl ?_
              refine sWk (lo' := []) [] rfl ?_
              exact X12_readRest_J109_ok 0 (a1 + 2) μ10
            · refine sBk (lo' := [(2, vi (rI μ 61 0 (ix a1))), (0, vr 13 0), (1, vi a1)]) (st' := [vi 1, vi (a1 + 2), vr 61 0]) (μ' := μ10) (pc' := 105) [(.iconst 1, 0, 0, 1, 0)] (by decide +kernel) rfl rfl ?_
              refine sGt (off := 4) (tgt := 109) (by decide +kernel) (by decide) ?_
              refine sWk (lo' := []) [] rfl ?_
              exact X12_readRest_J109_ok 1 (a1 + 2) μ10
        · refine sBk (lo' := [(2, vi (rI μ 61 0 (ix a1))), (0, vr 13 0), (1, vi a1)]) (st' := [vi a1, vr 13 0]) (μ' := μ) (pc' := 61) [(.aload_n 0, 0, 0, 0, 0), (.iload_n 1, 0, 0, 0, 0)] (by decide +kernel) rfl rfl ?_
          refine sCvV oV rfl (ci := 12) (q := (13, 0)) (avs := [vi a1]) (rest := []) (tX12_readTest a1 μ) (by decide) (by decide +kernel) lk_12_308 yv_X12_readTest rfl (by decide) rfl rfl rfl (Nat.le_of_ble_eq_true rfl) (fun μ12 => ?_)
          refine sGt (off := 83) (tgt := 147) (by decide +kernel) (by decide) ?_
          exact sRv (by decide +kernel)
      · refine sBk (lo' := [(2, vi (rI μ 61 0 (ix a1))), (0, vr 13 0), (1, vi a1)]) (st' := [vi 99, vi 1, vr 13 0, vi (a1 + 1), vr 61 0]) (μ' := μ) (pc' := 46) [(.aload_n 0, 0, 0, 0, 0), (.getfield 35, 12, 20, 0, 0), (.iload_n 1, 0, 0, 0, 0), (.iconst 1, 0, 0, 1, 0), (.iadd, 0, 0, 0, 0), (.aload_n 0, 0, 0, 0, 0), (.iconst 1, 0, 0, 1, 0), (.bipush 99, 0, 0, 99, 0)] (by decide +kernel) rfl rfl ?_
        refine sCvI oV rfl (ci := 12) (q := (13, 0)) (avs := [vi 1, vi 99]) (rest := [vi (a1 + 1), vr 61 0]) (tX12_count 1 99 μ) (by decide) (by decide +kernel) lk_12_238 yv_X12_count rfl (by decide) rfl rfl rfl (Nat.le_of_ble_eq_true rfl) (fun x13 μ14 => ?_)
        refine sS_ias oV rfl (n := 1740) (j := (ix (a1 + 1))) (by decide +kernel) rfl rfl rfl (fun _ => ?_)
        refine sGt (off := 97) (tgt := 147) (by decide +kernel) (by decide) ?_
        exact sRv (by decide +kernel)
    · refine sBk (lo' := [(2, vi (rI μ 61 0 (ix a1))), (0, vr 13 0), (1, vi a1)]) (st' := [vi 24, vi 1, vr 13 0, vi (a1 + 1), vr 61 0]) (μ' := μ) (pc' := 22) [(.aload_n 0, 0, 0, 0, 0), (.getfield 35, 12, 20, 0, 0), (.iload_n 1, 0, 0, 0, 0), (.iconst 1, 0, 0, 1, 0), (.iadd, 0, 0, 0, 0), (.aload_n 0, 0, 0, 0, 0), (.iconst 1, 0, 0, 1, 0), (.bipush 24, 0, 0, 24, 0)] (by decide +kernel) rfl rfl ?_
      refine sCvI oV rfl (ci := 12) (q := (13, 0)) (avs := [vi 1, vi 24]) (rest := [vi (a1 + 1), vr 61 0]) (tX12_count 1 24 μ) (by decide) (by decide +kernel) lk_12_238 yv_X12_count rfl (by decide) rfl rfl rfl (Nat.le_of_ble_eq_true rfl) (fun x15 μ16 => ?_)
      refine sS_ias oV rfl (n := 1740) (j := (ix (a1 + 1))) (by decide +kernel) rfl rfl rfl (fun _ => ?_)
      refine sGt (off := 121) (tgt := 147) (by decide +kernel) (by decide) ?_
      exact sRv (by decide +kernel)
/-! ClockRiverModel.readStep -/
def X12_readStep_J192 (rec : Int32 → sM → Option sM) (v4 : Int32) (μ : sM) : Option sM :=
  if inb (v4 + 8) 1740 = true then
    some (wI μ 61 0 (ix (v4 + 8)) (rI μ 13 0 26))
  else none
theorem X12_readStep_J192_ok {rec : Int32 → sM → Option sM} {d0 : Nat} (hd : 8 ≤ d0) (hrec : ∀ (a1 : Int32) (μ : sM), sMt yX12_readStep cX12_readStep 5 none d0 [vr 13 0, vi a1] μ (oV (rec a1 μ))) (v4 : Int32) (μ : sM) : sOk 12 cX12_readStep 5 (d0 + 1) false 192 [(0, vr 13 0), (4, vi v4)] [] μ (oV (X12_readStep_J192 rec v4 μ)) := by
  unfold X12_readStep_J192
  refine sBk (lo' := [(0, vr 13 0), (4, vi v4)]) (st' := [vi (rI μ 13 0 26), vi (v4 + 8), vr 61 0]) (μ' := μ) (pc' := 205) [(.aload_n 0, 0, 0, 0, 0), (.getfield 35, 12, 20, 0, 0), (.iload 4, 0, 0, 0, 0), (.bipush 8, 0, 0, 8, 0), (.iadd, 0, 0, 0, 0), (.aload_n 0, 0, 0, 0, 0), (.getfield 311, 12, 26, 0, 0)] (by decide +kernel) rfl rfl ?_
  refine sS_ias oV rfl (n := 1740) (j := (ix (v4 + 8))) (by decide +kernel) rfl rfl rfl (fun _ => ?_)
  exact sRv (by decide +kernel)
def X12_readStep_J170 (rec : Int32 → sM → Option sM) (v3 : Int32) (v4 : Int32) (μ : sM) : Option sM :=
  if v3 = 0 then
    X12_readStep_J192 rec v4 μ
  else
    bI (X12_isEnd μ) fun x1 μ2 =>
      bV (X12_must x1 μ2) fun μ4 =>
        bI (X12_isSign 59 μ4) fun x5 μ6 =>
          bV (X12_must x5 μ6) fun μ8 =>
            X12_readStep_J192 rec v4 μ8
theorem X12_readStep_J170_ok {rec : Int32 → sM → Option sM} {d0 : Nat} (hd : 8 ≤ d0) (hrec : ∀ (a1 : Int32) (μ : sM), sMt yX12_readStep cX12_readStep 5 none d0 [vr 13 0, vi a1] μ (oV (rec a1 μ))) (v3 : Int32) (v4 : Int32) (μ : sM) : sOk 12 cX12_readStep 5 (d0 + 1) false 170 [(0, vr 13 0), (3, vi v3), (4, vi v4)] [] μ (oV (X12_readStep_J170 rec v3 v4 μ)) := by
  unfold X12_readStep_J170
  refine sBk (lo' := [(0, vr 13 0), (3, vi v3), (4, vi v4)]) (st' := [vi v3]) (μ' := μ) (pc' := 171) [(.iload_n 3, 0, 0, 0, 0)] (by decide +kernel) rfl rfl ?_
  refine sIf_eq oV (off := 21) (tgt := 192) (by decide +kernel) (by decide) (fun _ => ?_) (fun _ => ?_)
  · refine sWk (lo' := [(0, vr 13 0), (4, vi v4)]) [0, 2] rfl ?_
    exact X12_readStep_J192_ok hd hrec v4 μ
  · refine sBk (lo' := [(0, vr 13 0), (3, vi v3), (4, vi v4)]) (st' := [vr 13 0, vr 13 0]) (μ' := μ) (pc' := 176) [(.aload_n 0, 0, 0, 0, 0), (.aload_n 0, 0, 0, 0, 0)] (by decide +kernel) rfl rfl ?_
    refine sCvI oV rfl (ci := 12) (q := (13, 0)) (avs := []) (rest := [vr 13 0]) (tX12_isEnd μ) (by omega) (by decide +kernel) lk_12_212 yv_X12_isEnd rfl (by decide) rfl rfl rfl (Nat.le_of_ble_eq_true rfl) (fun x1 μ2 => ?_)
    refine sCvV oV rfl (ci := 12) (q := (13, 0)) (avs := [vi x1]) (rest := []) (tX12_must x1 μ2) (by omega) (by decide +kernel) lk_12_234 yv_X12_must rfl (by decide) rfl rfl rfl (Nat.le_of_ble_eq_true rfl) (fun μ4 => ?_)
    refine sBk (lo' := [(0, vr 13 0), (3, vi v3), (4, vi v4)]) (st' := [vi 59, vr 13 0, vr 13 0]) (μ' := μ4) (pc' := 186) [(.aload_n 0, 0, 0, 0, 0), (.aload_n 0, 0, 0, 0, 0), (.bipush 59, 0, 0, 59, 0)] (by decide +kernel) rfl rfl ?_
    refine sCvI oV rfl (ci := 12) (q := (13, 0)) (avs := [vi 59]) (rest := [vr 13 0]) (tX12_isSign 59 μ4) (by omega) (by decide +kernel) lk_12_299 yv_X12_isSign rfl (by decide) rfl rfl rfl (Nat.le_of_ble_eq_true rfl) (fun x5 μ6 => ?_)
    refine sCvV oV rfl (ci := 12) (q := (13, 0)) (avs := [vi x5]) (rest := []) (tX12_must x5 μ6) (by omega) (by decide +kernel) lk_12_234 yv_X12_must rfl (by decide) rfl rfl rfl (Nat.le_of_ble_eq_true rfl) (fun μ8 => ?_)
    refine sWk (lo' := [(0, vr 13 0), (4, vi v4)]) [0, 2] rfl ?_
    exact X12_readStep_J192_ok hd hrec v4 μ8
def X12_readStep_L142 (rec : Int32 → sM → Option sM) : Nat → Int32 → Int32 → Int32 → sM → Option sM
  | 0, _, _, _, _ => none
  | n + 1, v1, v3, v4, μ =>
    if v3 = 0 then
      X12_readStep_J170 rec v3 v4 μ
    else
      if (rI μ 13 0 12) = 0 then
        bI (X12_isEnd μ) fun x1 μ2 =>
          if x1 = 0 then
            bV (rec (v1 + 1) μ2) fun μ4 =>
              X12_readStep_L142 rec n v1 v3 v4 μ4
          else
            X12_readStep_J170 rec v3 v4 μ2
      else
        X12_readStep_J170 rec v3 v4 μ
theorem X12_readStep_L142_ok {rec : Int32 → sM → Option sM} {d0 : Nat} (hd : 8 ≤ d0) (hrec : ∀ (a1 : Int32) (μ : sM), sMt yX12_readStep cX12_readStep 5 none d0 [vr 13 0, vi a1] μ (oV (rec a1 μ))) : ∀ (n : Nat) (v1 : Int32) (v3 : Int32) (v4 : Int32) (μ : sM), sOk 12 cX12_readStep 5 (d0 + 1) false 142 [(0, vr 13 0), (1, vi v1), (3, vi v3), (4, vi v4)] [] μ (oV (X12_readStep_L142 rec n v1 v3 v4 μ)) := by
  intro n
  induction n with
  | zero =>
    intros
    exact sNo
  | succ n ih =>
    intro v1 v3 v4 μ
    unfold X12_readStep_L142
    refine sBk (lo' := [(0, vr 13 0), (1, vi v1), (3, vi v3), (4, vi v4)]) (st' := [vi v3]) (μ' := μ) (pc' := 143) [(.iload_n 3, 0, 0, 0, 0)] (by decide +kernel) rfl rfl ?_
    refine sIf_eq oV (off := 27) (tgt := 170) (by decide +kernel) (by decide) (fun _ => ?_) (fun _ => ?_)
    · refine sWk (lo' := [(0, vr 13 0), (3, vi v3), (4, vi v4)]) [0, 2, 3] rfl ?_
      exact X12_readStep_J170_ok hd hrec v3 v4 μ
    · refine sBk (lo' := [(0, vr 13 0), (1, vi v1), (3, vi v3), (4, vi v4)]) (st' := [vi (rI μ 13 0 12)]) (μ' := μ) (pc' := 150) [(.aload_n 0, 0, 0, 0, 0), (.getfield 218, 12, 12, 0, 0)] (by decide +kernel) rfl rfl ?_
      refine sIf_ne oV (off := 20) (tgt := 170) (by decide +kernel) (by decide) (fun _ => ?_) (fun _ => ?_)
      · refine sWk (lo' := [(0, vr 13 0), (3, vi v3), (4, vi v4)]) [0, 2, 3] rfl ?_
        exact X12_readStep_J170_ok hd hrec v3 v4 μ
      · refine sBk (lo' := [(0, vr 13 0), (1, vi v1), (3, vi v3), (4, vi v4)]) (st' := [vr 13 0]) (μ' := μ) (pc' := 154) [(.aload_n 0, 0, 0, 0, 0)] (by decide +kernel) rfl rfl ?_
        refine sCvI oV rfl (ci := 12) (q := (13, 0)) (avs := []) (rest := []) (tX12_isEnd μ) (by omega) (by decide +kernel) lk_12_212 yv_X12_isEnd rfl (by decide) rfl rfl rfl (Nat.le_of_ble_eq_true rfl) (fun x1 μ2 => ?_)
        refine sIf_ne oV (off := 13) (tgt := 170) (by decide +kernel) (by decide) (fun _ => ?_) (fun _ => ?_)
        · refine sWk (lo' := [(0, vr 13 0), (3, vi v3), (4, vi v4)]) [0, 2, 3] rfl ?_
          exact X12_readStep_J170_ok hd hrec v3 v4 μ2
        · refine sBk (lo' := [(0, vr 13 0), (1, vi v1), (3, vi v3), (4, vi v4)]) (st' := [vi (v1 + 1), vr 13 0]) (μ' := μ2) (pc' := 164) [(.aload_n 0, 0, 0, 0, 0), (.iload_n 1, 0, 0, 0, 0), (.iconst 1, 0, 0, 1, 0), (.iadd, 0, 0, 0, 0)] (by decide +kernel) rfl rfl ?_
          refine sCvV oV rfl (ci := 12) (q := (13, 0)) (avs := [vi (v1 + 1)]) (rest := []) (hrec (v1 + 1) μ2) (by omega) (by decide +kernel) lk_12_317 yv_X12_readStep rfl (by decide) rfl rfl rfl (Nat.le_of_ble_eq_true rfl) (fun μ4 => ?_)
          refine sGt (off := (-25)) (tgt := 142) (by decide +kernel) (by decide) ?_
          exact ih v1 v3 v4 μ4
def X12_readStep_J83 (rec : Int32 → sM → Option sM) (v1 : Int32) (v2 : Int32) (v3 : Int32) (μ : sM) : Option sM :=
  if (rI μ 13 0 12) ≤ 0 then
    bV (X12_advance (wI μ 13 0 26 ((rI μ 13 0 26) + 1))) fun μ2 =>
      if inb (1470 + (9 * (rI μ 13 0 26))) 1740 = true then
        bV (X12_readRest (1470 + (9 * (rI μ 13 0 26))) (wI μ2 61 0 (ix (1470 + (9 * (rI μ 13 0 26)))) v2)) fun μ4 =>
          bI (X12_isSign 59 μ4) fun x5 μ6 =>
            bV (X12_must x5 μ6) fun μ8 =>
              X12_readStep_L142 rec fuN v1 v3 (1470 + (9 * (rI μ 13 0 26))) μ8
      else none
  else
    some μ
theorem X12_readStep_J83_ok {rec : Int32 → sM → Option sM} {d0 : Nat} (hd : 8 ≤ d0) (hrec : ∀ (a1 : Int32) (μ : sM), sMt yX12_readStep cX12_readStep 5 none d0 [vr 13 0, vi a1] μ (oV (rec a1 μ))) (v1 : Int32) (v2 : Int32) (v3 : Int32) (μ : sM) : sOk 12 cX12_readStep 5 (d0 + 1) false 83 [(0, vr 13 0), (1, vi v1), (2, vi v2), (3, vi v3)] [] μ (oV (X12_readStep_J83 rec v1 v2 v3 μ)) := by
  unfold X12_readStep_J83
  refine sBk (lo' := [(0, vr 13 0), (1, vi v1), (2, vi v2), (3, vi v3)]) (st' := [vi (rI μ 13 0 12)]) (μ' := μ) (pc' := 87) [(.aload_n 0, 0, 0, 0, 0), (.getfield 218, 12, 12, 0, 0)] (by decide +kernel) rfl rfl ?_
  refine sIf_le oV (off := 4) (tgt := 91) (by decide +kernel) (by decide) (fun _ => ?_) (fun _ => ?_)
  · refine sBk (lo' := [(4, vi (1470 + (9 * (rI μ 13 0 26)))), (0, vr 13 0), (1, vi v1), (2, vi v2), (3, vi v3)]) (st' := [vr 13 0]) (μ' := wI μ 13 0 26 ((rI μ 13 0 26) + 1)) (pc' := 115) [(.sipush 1470, 0, 0, 1470, 0), (.bipush 9, 0, 0, 9, 0), (.aload_n 0, 0, 0, 0, 0), (.getfield 311, 12, 26, 0, 0), (.imul, 0, 0, 0, 0), (.iadd, 0, 0, 0, 0), (.istore 4, 0, 0, 0, 0), (.aload_n 0, 0, 0, 0, 0), (.dup, 0, 0, 0, 0), (.getfield 311, 12, 26, 0, 0), (.iconst 1, 0, 0, 1, 0), (.iadd, 0, 0, 0, 0), (.putfield 311, 12, 26, 0, 0), (.aload_n 0, 0, 0, 0, 0)] (by decide +kernel) rfl rfl ?_
    refine sCvV oV rfl (ci := 12) (q := (13, 0)) (avs := []) (rest := []) (tX12_advance (wI μ 13 0 26 ((rI μ 13 0 26) + 1))) (by omega) (by decide +kernel) lk_12_228 yv_X12_advance rfl (by decide) rfl rfl rfl (Nat.le_of_ble_eq_true rfl) (fun μ2 => ?_)
    refine sBk (lo' := [(4, vi (1470 + (9 * (rI μ 13 0 26)))), (0, vr 13 0), (1, vi v1), (2, vi v2), (3, vi v3)]) (st' := [vi v2, vi (1470 + (9 * (rI μ 13 0 26))), vr 61 0]) (μ' := μ2) (pc' := 125) [(.aload_n 0, 0, 0, 0, 0), (.getfield 35, 12, 20, 0, 0), (.iload 4, 0, 0, 0, 0), (.iload_n 2, 0, 0, 0, 0)] (by decide +kernel) rfl rfl ?_
    refine sS_ias oV rfl (n := 1740) (j := (ix (1470 + (9 * (rI μ 13 0 26))))) (by decide +kernel) rfl rfl rfl (fun _ => ?_)
    refine sBk (lo' := [(4, vi (1470 + (9 * (rI μ 13 0 26)))), (0, vr 13 0), (1, vi v1), (2, vi v2), (3, vi v3)]) (st' := [vi (1470 + (9 * (rI μ 13 0 26))), vr 13 0]) (μ' := wI μ2 61 0 (ix (1470 + (9 * (rI μ 13 0 26)))) v2) (pc' := 129) [(.aload_n 0, 0, 0, 0, 0), (.iload 4, 0, 0, 0, 0)] (by decide +kernel) rfl rfl ?_
    refine sCvV oV rfl (ci := 12) (q := (13, 0)) (avs := [vi (1470 + (9 * (rI μ 13 0 26)))]) (rest := []) (tX12_readRest (1470 + (9 * (rI μ 13 0 26))) (wI μ2 61 0 (ix (1470 + (9 * (rI μ 13 0 26)))) v2)) (by omega) (by decide +kernel) lk_12_314 yv_X12_readRest rfl (by decide) rfl rfl rfl (Nat.le_of_ble_eq_true rfl) (fun μ4 => ?_)
    refine sBk (lo' := [(4, vi (1470 + (9 * (rI μ 13 0 26)))), (0, vr 13 0), (1, vi v1), (2, vi v2), (3, vi v3)]) (st' := [vi 59, vr 13 0, vr 13 0]) (μ' := μ4) (pc' := 136) [(.aload_n 0, 0, 0, 0, 0), (.aload_n 0, 0, 0, 0, 0), (.bipush 59, 0, 0, 59, 0)] (by decide +kernel) rfl rfl ?_
    refine sCvI oV rfl (ci := 12) (q := (13, 0)) (avs := [vi 59]) (rest := [vr 13 0]) (tX12_isSign 59 μ4) (by omega) (by decide +kernel) lk_12_299 yv_X12_isSign rfl (by decide) rfl rfl rfl (Nat.le_of_ble_eq_true rfl) (fun x5 μ6 => ?_)
    refine sCvV oV rfl (ci := 12) (q := (13, 0)) (avs := [vi x5]) (rest := []) (tX12_must x5 μ6) (by omega) (by decide +kernel) lk_12_234 yv_X12_must rfl (by decide) rfl rfl rfl (Nat.le_of_ble_eq_true rfl) (fun μ8 => ?_)
    refine sWk (lo' := [(0, vr 13 0), (1, vi v1), (3, vi v3), (4, vi (1470 + (9 * (rI μ 13 0 26))))]) [1, 2, 4, 0] rfl ?_
    exact X12_readStep_L142_ok hd hrec fuN v1 v3 (1470 + (9 * (rI μ 13 0 26))) μ8
  · exact sRv (by decide +kernel)
def X12_readStep_J57 (rec : Int32 → sM → Option sM) (v1 : Int32) (v2 : Int32) (v3 : Int32) (μ : sM) : Option sM :=
  if (rI μ 13 0 12) = 0 then
    if v3 = 0 then
      X12_readStep_J83 rec v1 v2 v3 μ
    else
      if v1 = 3 then
        bV (X12_fail 7 (rI μ 13 0 15) μ) fun μ2 =>
          X12_readStep_J83 rec v1 v2 v3 μ2
      else
        X12_readStep_J83 rec v1 v2 v3 μ
  else
    X12_readStep_J83 rec v1 v2 v3 μ
theorem X12_readStep_J57_ok {rec : Int32 → sM → Option sM} {d0 : Nat} (hd : 8 ≤ d0) (hrec : ∀ (a1 : Int32) (μ : sM), sMt yX12_readStep cX12_readStep 5 none d0 [vr 13 0, vi a1] μ (oV (rec a1 μ))) (v1 : Int32) (v2 : Int32) (v3 : Int32) (μ : sM) : sOk 12 cX12_readStep 5 (d0 + 1) false 57 [(0, vr 13 0), (1, vi v1), (2, vi v2), (3, vi v3)] [] μ (oV (X12_readStep_J57 rec v1 v2 v3 μ)) := by
  unfold X12_readStep_J57
  refine sBk (lo' := [(0, vr 13 0), (1, vi v1), (2, vi v2), (3, vi v3)]) (st' := [vi (rI μ 13 0 12)]) (μ' := μ) (pc' := 61) [(.aload_n 0, 0, 0, 0, 0), (.getfield 218, 12, 12, 0, 0)] (by decide +kernel) rfl rfl ?_
  refine sIf_ne oV (off := 22) (tgt := 83) (by decide +kernel) (by decide) (fun _ => ?_) (fun _ => ?_)
  · exact X12_readStep_J83_ok hd hrec v1 v2 v3 μ
  · refine sBk (lo' := [(0, vr 13 0), (1, vi v1), (2, vi v2), (3, vi v3)]) (st' := [vi v3]) (μ' := μ) (pc' := 65) [(.iload_n 3, 0, 0, 0, 0)] (by decide +kernel) rfl rfl ?_
    refine sIf_eq oV (off := 18) (tgt := 83) (by decide +kernel) (by decide) (fun _ => ?_) (fun _ => ?_)
    · exact X12_readStep_J83_ok hd hrec v1 v2 v3 μ
    · refine sBk (lo' := [(0, vr 13 0), (1, vi v1), (2, vi v2), (3, vi v3)]) (st' := [vi 3, vi v1]) (μ' := μ) (pc' := 70) [(.iload_n 1, 0, 0, 0, 0), (.iconst 3, 0, 0, 3, 0)] (by decide +kernel) rfl rfl ?_
      refine sIc_ne oV (off := 13) (tgt := 83) (by decide +kernel) (by decide) (fun _ => ?_) (fun _ => ?_)
      · exact X12_readStep_J83_ok hd hrec v1 v2 v3 μ
      · refine sBk (lo' := [(0, vr 13 0), (1, vi v1), (2, vi v2), (3, vi v3)]) (st' := [vi (rI μ 13 0 15), vi 7, vr 13 0]) (μ' := μ) (pc' := 80) [(.aload_n 0, 0, 0, 0, 0), (.bipush 7, 0, 0, 7, 0), (.aload_n 0, 0, 0, 0, 0), (.getfield 117, 12, 15, 0, 0)] (by decide +kernel) rfl rfl ?_
        refine sCvV oV rfl (ci := 12) (q := (13, 0)) (avs := [vi 7, vi (rI μ 13 0 15)]) (rest := []) (tX12_fail 7 (rI μ 13 0 15) μ) (by omega) (by decide +kernel) lk_12_224 yv_X12_fail rfl (by decide) rfl rfl rfl (Nat.le_of_ble_eq_true rfl) (fun μ2 => ?_)
        exact X12_readStep_J83_ok hd hrec v1 v2 v3 μ2
def X12_readStep_J31 (rec : Int32 → sM → Option sM) (v1 : Int32) (v2 : Int32) (v3 : Int32) (μ : sM) : Option sM :=
  if (rI μ 13 0 12) = 0 then
    if (rI μ 13 0 26) = 30 then
      bV (X12_fail 6 (rI μ 13 0 15) μ) fun μ2 =>
        X12_readStep_J57 rec v1 v2 v3 μ2
    else
      X12_readStep_J57 rec v1 v2 v3 μ
  else
    X12_readStep_J57 rec v1 v2 v3 μ
theorem X12_readStep_J31_ok {rec : Int32 → sM → Option sM} {d0 : Nat} (hd : 8 ≤ d0) (hrec : ∀ (a1 : Int32) (μ : sM), sMt yX12_readStep cX12_readStep 5 none d0 [vr 13 0, vi a1] μ (oV (rec a1 μ))) (v1 : Int32) (v2 : Int32) (v3 : Int32) (μ : sM) : sOk 12 cX12_readStep 5 (d0 + 1) false 31 [(0, vr 13 0), (1, vi v1), (2, vi v2), (3, vi v3)] [] μ (oV (X12_readStep_J31 rec v1 v2 v3 μ)) := by
  unfold X12_readStep_J31
  refine sBk (lo' := [(0, vr 13 0), (1, vi v1), (2, vi v2), (3, vi v3)]) (st' := [vi (rI μ 13 0 12)]) (μ' := μ) (pc' := 35) [(.aload_n 0, 0, 0, 0, 0), (.getfield 218, 12, 12, 0, 0)] (by decide +kernel) rfl rfl ?_
  refine sIf_ne oV (off := 22) (tgt := 57) (by decide +kernel) (by decide) (fun _ => ?_) (fun _ => ?_)
  · exact X12_readStep_J57_ok hd hrec v1 v2 v3 μ
  · refine sBk (lo' := [(0, vr 13 0), (1, vi v1), (2, vi v2), (3, vi v3)]) (st' := [vi 30, vi (rI μ 13 0 26)]) (μ' := μ) (pc' := 44) [(.aload_n 0, 0, 0, 0, 0), (.getfield 311, 12, 26, 0, 0), (.bipush 30, 0, 0, 30, 0)] (by decide +kernel) rfl rfl ?_
    refine sIc_ne oV (off := 13) (tgt := 57) (by decide +kernel) (by decide) (fun _ => ?_) (fun _ => ?_)
    · exact X12_readStep_J57_ok hd hrec v1 v2 v3 μ
    · refine sBk (lo' := [(0, vr 13 0), (1, vi v1), (2, vi v2), (3, vi v3)]) (st' := [vi (rI μ 13 0 15), vi 6, vr 13 0]) (μ' := μ) (pc' := 54) [(.aload_n 0, 0, 0, 0, 0), (.bipush 6, 0, 0, 6, 0), (.aload_n 0, 0, 0, 0, 0), (.getfield 117, 12, 15, 0, 0)] (by decide +kernel) rfl rfl ?_
      refine sCvV oV rfl (ci := 12) (q := (13, 0)) (avs := [vi 6, vi (rI μ 13 0 15)]) (rest := []) (tX12_fail 6 (rI μ 13 0 15) μ) (by omega) (by decide +kernel) lk_12_224 yv_X12_fail rfl (by decide) rfl rfl rfl (Nat.le_of_ble_eq_true rfl) (fun μ2 => ?_)
      exact X12_readStep_J57_ok hd hrec v1 v2 v3 μ2
def X12_readStep_J22 (rec : Int32 → sM → Option sM) (v1 : Int32) (v2 : Int32) (s0 : Int32) (μ : sM) : Option sM :=
  if 0 ≤ v2 then
    X12_readStep_J31 rec v1 v2 s0 μ
  else
    bV (X12_amiss μ) fun μ2 =>
      X12_readStep_J31 rec v1 v2 s0 μ2
theorem X12_readStep_J22_ok {rec : Int32 → sM → Option sM} {d0 : Nat} (hd : 8 ≤ d0) (hrec : ∀ (a1 : Int32) (μ : sM), sMt yX12_readStep cX12_readStep 5 none d0 [vr 13 0, vi a1] μ (oV (rec a1 μ))) (v1 : Int32) (v2 : Int32) (s0 : Int32) (μ : sM) : sOk 12 cX12_readStep 5 (d0 + 1) false 22 [(0, vr 13 0), (1, vi v1), (2, vi v2)] [vi s0] μ (oV (X12_readStep_J22 rec v1 v2 s0 μ)) := by
  unfold X12_readStep_J22
  refine sBk (lo' := [(3, vi s0), (0, vr 13 0), (1, vi v1), (2, vi v2)]) (st' := [vi v2]) (μ' := μ) (pc' := 24) [(.istore_n 3, 0, 0, 0, 0), (.iload_n 2, 0, 0, 0, 0)] (by decide +kernel) rfl rfl ?_
  refine sIf_ge oV (off := 7) (tgt := 31) (by decide +kernel) (by decide) (fun _ => ?_) (fun _ => ?_)
  · refine sWk (lo' := [(0, vr 13 0), (1, vi v1), (2, vi v2), (3, vi s0)]) [1, 2, 3, 0] rfl ?_
    exact X12_readStep_J31_ok hd hrec v1 v2 s0 μ
  · refine sBk (lo' := [(3, vi s0), (0, vr 13 0), (1, vi v1), (2, vi v2)]) (st' := [vr 13 0]) (μ' := μ) (pc' := 28) [(.aload_n 0, 0, 0, 0, 0)] (by decide +kernel) rfl rfl ?_
    refine sCvV oV rfl (ci := 12) (q := (13, 0)) (avs := []) (rest := []) (tX12_amiss μ) (by omega) (by decide +kernel) lk_12_231 yv_X12_amiss rfl (by decide) rfl rfl rfl (Nat.le_of_ble_eq_true rfl) (fun μ2 => ?_)
    refine sWk (lo' := [(0, vr 13 0), (1, vi v1), (2, vi v2), (3, vi s0)]) [1, 2, 3, 0] rfl ?_
    exact X12_readStep_J31_ok hd hrec v1 v2 s0 μ2
def X12_readStep_J17 (rec : Int32 → sM → Option sM) (v1 : Int32) (v2 : Int32) (μ : sM) : Option sM :=
  X12_readStep_J22 rec v1 v2 1 μ
theorem X12_readStep_J17_ok {rec : Int32 → sM → Option sM} {d0 : Nat} (hd : 8 ≤ d0) (hrec : ∀ (a1 : Int32) (μ : sM), sMt yX12_readStep cX12_readStep 5 none d0 [vr 13 0, vi a1] μ (oV (rec a1 μ))) (v1 : Int32) (v2 : Int32) (μ : sM) : sOk 12 cX12_readStep 5 (d0 + 1) false 17 [(0, vr 13 0), (1, vi v1), (2, vi v2)] [] μ (oV (X12_readStep_J17 rec v1 v2 μ)) := by
  unfold X12_readStep_J17
  refine sBk (lo' := [(0, vr 13 0), (1, vi v1), (2, vi v2)]) (st' := [vi 1]) (μ' := μ) (pc' := 18) [(.iconst 1, 0, 0, 1, 0)] (by decide +kernel) rfl rfl ?_
  refine sGt (off := 4) (tgt := 22) (by decide +kernel) (by decide) ?_
  exact X12_readStep_J22_ok hd hrec v1 v2 1 μ
def X12_readStep_ (rec : Int32 → sM → Option sM) (a1 : Int32) (μ : sM) : Option sM :=
  bI (X12_stepWord μ) fun x1 μ2 =>
    if x1 = 7 then
      X12_readStep_J17 rec a1 x1 μ2
    else
      if x1 = 8 then
        X12_readStep_J17 rec a1 x1 μ2
      else
        X12_readStep_J22 rec a1 x1 0 μ2
theorem tX12_readStep_ {rec : Int32 → sM → Option sM} {d0 : Nat} (hd : 8 ≤ d0) (hrec : ∀ (a1 : Int32) (μ : sM), sMt yX12_readStep cX12_readStep 5 none d0 [vr 13 0, vi a1] μ (oV (rec a1 μ))) (a1 : Int32) (μ : sM) : sMt yX12_readStep cX12_readStep 5 none (d0 + 1) [vr 13 0, vi a1] μ (oV (X12_readStep_ rec a1 μ)) := by
  refine sMt_of (own := 12) (bl := false) (by decide +kernel) rfl (Nat.le_of_ble_eq_true rfl) (fun r ρ h => ?_) ?_
  · obtain ⟨q, -, hq⟩ := Option.map_eq_some_iff.mp h
    cases hq
    exact rfl
  · unfold X12_readStep_
    show sOk 12 cX12_readStep 5 (d0 + 1) false 0 [(0, vr 13 0), (1, vi a1)] [] μ _
    refine sBk (lo' := [(0, vr 13 0), (1, vi a1)]) (st' := [vr 13 0]) (μ' := μ) (pc' := 1) [(.aload_n 0, 0, 0, 0, 0)] (by decide +kernel) rfl rfl ?_
    refine sCvI oV rfl (ci := 12) (q := (13, 0)) (avs := []) (rest := []) (tX12_stepWord μ) (by omega) (by decide +kernel) lk_12_205 yv_X12_stepWord rfl (by decide) rfl rfl rfl (Nat.le_of_ble_eq_true rfl) (fun x1 μ2 => ?_)
    refine sBk (lo' := [(2, vi x1), (0, vr 13 0), (1, vi a1)]) (st' := [vi 7, vi x1]) (μ' := μ2) (pc' := 8) [(.istore_n 2, 0, 0, 0, 0), (.iload_n 2, 0, 0, 0, 0), (.bipush 7, 0, 0, 7, 0)] (by decide +kernel) rfl rfl ?_
    refine sIc_eq oV (off := 9) (tgt := 17) (by decide +kernel) (by decide) (fun _ => ?_) (fun _ => ?_)
    · refine sWk (lo' := [(0, vr 13 0), (1, vi a1), (2, vi x1)]) [1, 2, 0] rfl ?_
      exact X12_readStep_J17_ok hd hrec a1 x1 μ2
    · refine sBk (lo' := [(2, vi x1), (0, vr 13 0), (1, vi a1)]) (st' := [vi 8, vi x1]) (μ' := μ2) (pc' := 14) [(.iload_n 2, 0, 0, 0, 0), (.bipush 8, 0, 0, 8, 0)] (by decide +kernel) rfl rfl ?_
      refine sIc_ne oV (off := 7) (tgt := 21) (by decide +kernel) (by decide) (fun _ => ?_) (fun _ => ?_)
      · refine sBk (lo' := [(2, vi x1), (0, vr 13 0), (1, vi a1)]) (st' := [vi 0]) (μ' := μ2) (pc' := 22) [(.iconst 0, 0, 0, 0, 0)] (by decide +kernel) rfl rfl ?_
        refine sWk (lo' := [(0, vr 13 0), (1, vi a1), (2, vi x1)]) [1, 2, 0] rfl ?_
        exact X12_readStep_J22_ok hd hrec a1 x1 0 μ2
      · refine sWk (lo' := [(0, vr 13 0), (1, vi a1), (2, vi x1)]) [1, 2, 0] rfl ?_
        exact X12_readStep_J17_ok hd hrec a1 x1 μ2
def X12_readStepN : Nat → Int32 → sM → Option sM
  | 0 => fun _ _ => none
  | n + 1 => X12_readStep_ (X12_readStepN n)
theorem tX12_readStepN : ∀ (n : Nat) (a1 : Int32) (μ : sM), sMt yX12_readStep cX12_readStep 5 none (8 + n) [vr 13 0, vi a1] μ (oV (X12_readStepN n a1 μ))
  | 0, _, _ => fun _ _ h => by cases h
  | n + 1, a1, μ => tX12_readStep_ (d0 := 8 + n) (by omega) (fun a1 μ => tX12_readStepN n a1 μ) a1 μ
def X12_readStep (a1 : Int32) (μ : sM) : Option sM := X12_readStepN 6 a1 μ
theorem tX12_readStep (a1 : Int32) (μ : sM) : sMt yX12_readStep cX12_readStep 5 none 14 [vr 13 0, vi a1] μ (oV (X12_readStep a1 μ)) := tX12_readStepN 6 a1 μ
/-! ClockRiverModel.weeks -/
def X12_weeks_L80 : Nat → Int32 → sM → Option (Int32 × sM)
  | 0, _, _ => none
  | n + 1, v2, μ =>
    if (9 * (rI μ 13 0 26)) ≤ v2 then
      some ((rI μ 13 0 26), μ)
    else
      if inb (1470 + v2) 1740 = true then
        if inb (78 + v2) 1740 = true then
          X12_weeks_L80 n (v2 + 1) (wI μ 61 0 (ix (78 + v2)) (rI μ 61 0 (ix (1470 + v2))))
        else none
      else none
theorem X12_weeks_L80_ok : ∀ (n : Nat) (v2 : Int32) (μ : sM), sOk 12 cX12_weeks 3 15 false 80 [(0, vr 13 0), (2, vi v2)] [] μ (oI (X12_weeks_L80 n v2 μ)) := by
  intro n
  induction n with
  | zero =>
    intros
    exact sNo
  | succ n ih =>
    intro v2 μ
    unfold X12_weeks_L80
    refine sBk (lo' := [(0, vr 13 0), (2, vi v2)]) (st' := [vi (9 * (rI μ 13 0 26)), vi v2]) (μ' := μ) (pc' := 88) [(.iload_n 2, 0, 0, 0, 0), (.bipush 9, 0, 0, 9, 0), (.aload_n 0, 0, 0, 0, 0), (.getfield 311, 12, 26, 0, 0), (.imul, 0, 0, 0, 0)] (by decide +kernel) rfl rfl ?_
    refine sIc_ge oI (off := 28) (tgt := 116) (by decide +kernel) (by decide) (fun _ => ?_) (fun _ => ?_)
    · refine sBk (lo' := [(0, vr 13 0), (2, vi v2)]) (st' := [vi (rI μ 13 0 26)]) (μ' := μ) (pc' := 120) [(.aload_n 0, 0, 0, 0, 0), (.getfield 311, 12, 26, 0, 0)] (by decide +kernel) rfl rfl ?_
      exact sRi (by decide +kernel) (fun h => by cases h)
    · refine sBk (lo' := [(0, vr 13 0), (2, vi v2)]) (st' := [vi (1470 + v2), vr 61 0, vi (78 + v2), vr 61 0]) (μ' := μ) (pc' := 108) [(.aload_n 0, 0, 0, 0, 0), (.getfield 35, 12, 20, 0, 0), (.bipush 78, 0, 0, 78, 0), (.iload_n 2, 0, 0, 0, 0), (.iadd, 0, 0, 0, 0), (.aload_n 0, 0, 0, 0, 0), (.getfield 35, 12, 20, 0, 0), (.sipush 1470, 0, 0, 1470, 0), (.iload_n 2, 0, 0, 0, 0), (.iadd, 0, 0, 0, 0)] (by decide +kernel) rfl rfl ?_
      refine sS_ial oI rfl (n := 1740) (j := (ix (1470 + v2))) (by decide +kernel) rfl rfl rfl (fun _ => ?_)
      refine sS_ias oI rfl (n := 1740) (j := (ix (78 + v2))) (by decide +kernel) rfl rfl rfl (fun _ => ?_)
      refine sBk (lo' := [(2, vi (v2 + 1)), (0, vr 13 0)]) (st' := []) (μ' := wI μ 61 0 (ix (78 + v2)) (rI μ 61 0 (ix (1470 + v2)))) (pc' := 113) [(.iinc 2 1, 0, 0, 1, 0)] (by decide +kernel) rfl rfl ?_
      refine sGt (off := (-33)) (tgt := 80) (by decide +kernel) (by decide) ?_
      refine sWk (lo' := [(0, vr 13 0), (2, vi (v2 + 1))]) [1, 0] rfl ?_
      exact ih (v2 + 1) (wI μ 61 0 (ix (78 + v2)) (rI μ 61 0 (ix (1470 + v2))))
def X12_weeks_J50 (μ : sM) : Option (Int32 × sM) :=
  bI (X12_isWell μ) fun x1 μ2 =>
    if x1 = 0 then
      some ((-1), μ2)
    else
      X12_weeks_L80 fuN 0 (wI (wI μ2 61 0 76 1) 61 0 77 (rI μ2 13 0 26))
theorem X12_weeks_J50_ok (μ : sM) : sOk 12 cX12_weeks 3 15 false 50 [(0, vr 13 0)] [] μ (oI (X12_weeks_J50 μ)) := by
  unfold X12_weeks_J50
  refine sBk (lo' := [(0, vr 13 0)]) (st' := [vr 13 0]) (μ' := μ) (pc' := 51) [(.aload_n 0, 0, 0, 0, 0)] (by decide +kernel) rfl rfl ?_
  refine sCvI oI rfl (ci := 12) (q := (13, 0)) (avs := []) (rest := []) (tX12_isWell μ) (by decide) (by decide +kernel) lk_12_302 yv_X12_isWell rfl (by decide) rfl rfl rfl (Nat.le_of_ble_eq_true rfl) (fun x1 μ2 => ?_)
  refine sIf_ne oI (off := 5) (tgt := 59) (by decide +kernel) (by decide) (fun _ => ?_) (fun _ => ?_)
  · refine sBk (lo' := [(0, vr 13 0)]) (st' := [vi 1, vi 76, vr 61 0]) (μ' := μ2) (pc' := 66) [(.aload_n 0, 0, 0, 0, 0), (.getfield 35, 12, 20, 0, 0), (.bipush 76, 0, 0, 76, 0), (.iconst 1, 0, 0, 1, 0)] (by decide +kernel) rfl rfl ?_
    refine sC_ias (n := 1740) (j := 76) (by decide +kernel) (by decide +kernel) rfl rfl (by decide +kernel) ?_
    refine sBk (lo' := [(0, vr 13 0)]) (st' := [vi (rI μ2 13 0 26), vi 77, vr 61 0]) (μ' := wI μ2 61 0 76 1) (pc' := 77) [(.aload_n 0, 0, 0, 0, 0), (.getfield 35, 12, 20, 0, 0), (.bipush 77, 0, 0, 77, 0), (.aload_n 0, 0, 0, 0, 0), (.getfield 311, 12, 26, 0, 0)] (by decide +kernel) rfl rfl ?_
    refine sC_ias (n := 1740) (j := 77) (by decide +kernel) (by decide +kernel) rfl rfl (by decide +kernel) ?_
    refine sBk (lo' := [(2, vi 0), (0, vr 13 0)]) (st' := []) (μ' := wI (wI μ2 61 0 76 1) 61 0 77 (rI μ2 13 0 26)) (pc' := 80) [(.iconst 0, 0, 0, 0, 0), (.istore_n 2, 0, 0, 0, 0)] (by decide +kernel) rfl rfl ?_
    refine sWk (lo' := [(0, vr 13 0), (2, vi 0)]) [1, 0] rfl ?_
    exact X12_weeks_L80_ok fuN 0 (wI (wI μ2 61 0 76 1) 61 0 77 (rI μ2 13 0 26))
  · refine sBk (lo' := [(0, vr 13 0)]) (st' := [vi (-1)]) (μ' := μ2) (pc' := 58) [(.iconst (-1), 0, 0, (-1), 0)] (by decide +kernel) rfl rfl ?_
    exact sRi (by decide +kernel) (fun h => by cases h)
def X12_weeks_L28 : Nat → sM → Option (Int32 × sM)
  | 0, _ => none
  | n + 1, μ =>
    if (rI μ 13 0 12) = 0 then
      if (rI μ 13 0 14) = 0 then
        X12_weeks_J50 μ
      else
        bV (X12_readStep 0 μ) fun μ2 =>
          X12_weeks_L28 n μ2
    else
      X12_weeks_J50 μ
theorem X12_weeks_L28_ok : ∀ (n : Nat) (μ : sM), sOk 12 cX12_weeks 3 15 false 28 [(0, vr 13 0)] [] μ (oI (X12_weeks_L28 n μ)) := by
  intro n
  induction n with
  | zero =>
    intros
    exact sNo
  | succ n ih =>
    intro μ
    unfold X12_weeks_L28
    refine sBk (lo' := [(0, vr 13 0)]) (st' := [vi (rI μ 13 0 12)]) (μ' := μ) (pc' := 32) [(.aload_n 0, 0, 0, 0, 0), (.getfield 218, 12, 12, 0, 0)] (by decide +kernel) rfl rfl ?_
    refine sIf_ne oI (off := 18) (tgt := 50) (by decide +kernel) (by decide) (fun _ => ?_) (fun _ => ?_)
    · exact X12_weeks_J50_ok μ
    · refine sBk (lo' := [(0, vr 13 0)]) (st' := [vi (rI μ 13 0 14)]) (μ' := μ) (pc' := 39) [(.aload_n 0, 0, 0, 0, 0), (.getfield 123, 12, 14, 0, 0)] (by decide +kernel) rfl rfl ?_
      refine sIf_eq oI (off := 11) (tgt := 50) (by decide +kernel) (by decide) (fun _ => ?_) (fun _ => ?_)
      · exact X12_weeks_J50_ok μ
      · refine sBk (lo' := [(0, vr 13 0)]) (st' := [vi 0, vr 13 0]) (μ' := μ) (pc' := 44) [(.aload_n 0, 0, 0, 0, 0), (.iconst 0, 0, 0, 0, 0)] (by decide +kernel) rfl rfl ?_
        refine sCvV oI rfl (ci := 12) (q := (13, 0)) (avs := [vi 0]) (rest := []) (tX12_readStep 0 μ) (by decide) (by decide +kernel) lk_12_317 yv_X12_readStep rfl (by decide) rfl rfl rfl (Nat.le_of_ble_eq_true rfl) (fun μ2 => ?_)
        refine sGt (off := (-19)) (tgt := 28) (by decide +kernel) (by decide) ?_
        exact ih μ2
def X12_weeks (a1 : Int32) (μ : sM) : Option (Int32 × sM) :=
  bI (X12_starts a1 300 (wI (wI μ 13 0 1 0) 13 0 0 0)) fun x1 μ2 =>
    if x1 = 0 then
      some ((-1), μ2)
    else
      X12_weeks_L28 fuN (wI μ2 13 0 26 0)
theorem tX12_weeks (a1 : Int32) (μ : sM) : sMt yX12_weeks cX12_weeks 3 (some .int) 15 [vr 13 0, vi a1] μ (oI (X12_weeks a1 μ)) := by
  refine sMt_of (own := 12) (bl := false) (by decide +kernel) rfl (Nat.le_of_ble_eq_true rfl) (fun r ρ h => ?_) ?_
  · obtain ⟨q, -, hq⟩ := Option.map_eq_some_iff.mp h
    cases hq
    exact Or.inl rfl
  · unfold X12_weeks
    show sOk 12 cX12_weeks 3 15 false 0 [(0, vr 13 0), (1, vi a1)] [] μ _
    refine sBk (lo' := [(0, vr 13 0), (1, vi a1)]) (st' := [vi 300, vi a1, vr 13 0]) (μ' := wI (wI μ 13 0 1 0) 13 0 0 0) (pc' := 15) [(.aload_n 0, 0, 0, 0, 0), (.iconst 0, 0, 0, 0, 0), (.putfield 72, 12, 1, 0, 0), (.aload_n 0, 0, 0, 0, 0), (.iconst 0, 0, 0, 0, 0), (.putfield 75, 12, 0, 0, 0), (.aload_n 0, 0, 0, 0, 0), (.iload_n 1, 0, 0, 0, 0), (.sipush 300, 0, 0, 300, 0)] (by decide +kernel) rfl rfl ?_
    refine sCvI oI rfl (ci := 12) (q := (13, 0)) (avs := [vi a1, vi 300]) (rest := []) (tX12_starts a1 300 (wI (wI μ 13 0 1 0) 13 0 0 0)) (by decide) (by decide +kernel) lk_12_293 yv_X12_starts rfl (by decide) rfl rfl rfl (Nat.le_of_ble_eq_true rfl) (fun x1 μ2 => ?_)
    refine sIf_ne oI (off := 5) (tgt := 23) (by decide +kernel) (by decide) (fun _ => ?_) (fun _ => ?_)
    · refine sBk (lo' := [(0, vr 13 0), (1, vi a1)]) (st' := []) (μ' := wI μ2 13 0 26 0) (pc' := 28) [(.aload_n 0, 0, 0, 0, 0), (.iconst 0, 0, 0, 0, 0), (.putfield 311, 12, 26, 0, 0)] (by decide +kernel) rfl rfl ?_
      refine sWk (lo' := [(0, vr 13 0)]) [0] rfl ?_
      exact X12_weeks_L28_ok fuN (wI μ2 13 0 26 0)
    · refine sBk (lo' := [(0, vr 13 0), (1, vi a1)]) (st' := [vi (-1)]) (μ' := μ2) (pc' := 22) [(.iconst (-1), 0, 0, (-1), 0)] (by decide +kernel) rfl rfl ?_
      exact sRi (by decide +kernel) (fun h => by cases h)
/-! ClockRiverModel.fault -/
def X12_fault (a1 : Int32) (μ : sM) : Option (Int32 × sM) :=
  if a1 = 0 then
    some ((rI μ 13 0 10), wI μ 13 0 1 0)
  else
    if a1 = 1 then
      some ((rI μ 13 0 11), wI μ 13 0 1 0)
    else
      some ((-1), wI μ 13 0 1 0)
theorem tX12_fault (a1 : Int32) (μ : sM) : sMt yX12_fault cX12_fault 2 (some .int) 1 [vr 13 0, vi a1] μ (oI (X12_fault a1 μ)) := by
  refine sMt_of (own := 12) (bl := false) (by decide +kernel) rfl (Nat.le_of_ble_eq_true rfl) (fun r ρ h => ?_) ?_
  · obtain ⟨q, -, hq⟩ := Option.map_eq_some_iff.mp h
    cases hq
    exact Or.inl rfl
  · unfold X12_fault
    show sOk 12 cX12_fault 2 1 false 0 [(0, vr 13 0), (1, vi a1)] [] μ _
    refine sBk (lo' := [(0, vr 13 0), (1, vi a1)]) (st' := [vi a1]) (μ' := wI μ 13 0 1 0) (pc' := 6) [(.aload_n 0, 0, 0, 0, 0), (.iconst 0, 0, 0, 0, 0), (.putfield 72, 12, 1, 0, 0), (.iload_n 1, 0, 0, 0, 0)] (by decide +kernel) rfl rfl ?_
    refine sIf_ne oI (off := 10) (tgt := 16) (by decide +kernel) (by decide) (fun _ => ?_) (fun _ => ?_)
    · refine sBk (lo' := [(0, vr 13 0), (1, vi a1)]) (st' := [vi 1, vi a1]) (μ' := wI μ 13 0 1 0) (pc' := 18) [(.iload_n 1, 0, 0, 0, 0), (.iconst 1, 0, 0, 1, 0)] (by decide +kernel) rfl rfl ?_
      refine sIc_ne oI (off := 10) (tgt := 28) (by decide +kernel) (by decide) (fun _ => ?_) (fun _ => ?_)
      · refine sBk (lo' := [(0, vr 13 0), (1, vi a1)]) (st' := [vi (-1)]) (μ' := wI μ 13 0 1 0) (pc' := 29) [(.iconst (-1), 0, 0, (-1), 0)] (by decide +kernel) rfl rfl ?_
        exact sRi (by decide +kernel) (fun h => by cases h)
      · refine sBk (lo' := [(0, vr 13 0), (1, vi a1)]) (st' := [vi (rI μ 13 0 11)]) (μ' := wI μ 13 0 1 0) (pc' := 25) [(.aload_n 0, 0, 0, 0, 0), (.getfield 32, 12, 11, 0, 0)] (by decide +kernel) rfl rfl ?_
        refine sGt (off := 4) (tgt := 29) (by decide +kernel) (by decide) ?_
        exact sRi (by decide +kernel) (fun h => by cases h)
    · refine sBk (lo' := [(0, vr 13 0), (1, vi a1)]) (st' := [vi (rI μ 13 0 10)]) (μ' := wI μ 13 0 1 0) (pc' := 13) [(.aload_n 0, 0, 0, 0, 0), (.getfield 28, 12, 10, 0, 0)] (by decide +kernel) rfl rfl ?_
      refine sGt (off := 16) (tgt := 29) (by decide +kernel) (by decide) ?_
      exact sRi (by decide +kernel) (fun h => by cases h)
/-! ClockRiverModel.refuse -/
def X12_refuse (a1 : Int32) (μ : sM) : Option (Int32 × sM) :=
  some ((-1), wI μ 13 0 0 a1)
theorem tX12_refuse (a1 : Int32) (μ : sM) : sMt yX12_refuse cX12_refuse 2 (some .int) 1 [vr 13 0, vi a1] μ (oI (X12_refuse a1 μ)) := by
  refine sMt_of (own := 12) (bl := false) (by decide +kernel) rfl (Nat.le_of_ble_eq_true rfl) (fun r ρ h => ?_) ?_
  · obtain ⟨q, -, hq⟩ := Option.map_eq_some_iff.mp h
    cases hq
    exact Or.inl rfl
  · unfold X12_refuse
    show sOk 12 cX12_refuse 2 1 false 0 [(0, vr 13 0), (1, vi a1)] [] μ _
    refine sBk (lo' := [(0, vr 13 0), (1, vi a1)]) (st' := [vi (-1)]) (μ' := wI μ 13 0 0 a1) (pc' := 6) [(.aload_n 0, 0, 0, 0, 0), (.iload_n 1, 0, 0, 0, 0), (.putfield 75, 12, 0, 0, 0), (.iconst (-1), 0, 0, (-1), 0)] (by decide +kernel) rfl rfl ?_
    exact sRi (by decide +kernel) (fun h => by cases h)
/-! ClockRiverModel.day -/
def X12_day (μ : sM) : Option (Int32 × sM) :=
  some (((rI μ 61 0 6) / 24), μ)
theorem tX12_day (μ : sM) : sMt yX12_day cX12_day 1 (some .int) 1 [vr 13 0] μ (oI (X12_day μ)) := by
  refine sMt_of (own := 12) (bl := false) (by decide +kernel) rfl (Nat.le_of_ble_eq_true rfl) (fun r ρ h => ?_) ?_
  · obtain ⟨q, -, hq⟩ := Option.map_eq_some_iff.mp h
    cases hq
    exact Or.inl rfl
  · unfold X12_day
    show sOk 12 cX12_day 1 1 false 0 [(0, vr 13 0)] [] μ _
    refine sBk (lo' := [(0, vr 13 0)]) (st' := [vi 6, vr 61 0]) (μ' := μ) (pc' := 6) [(.aload_n 0, 0, 0, 0, 0), (.getfield 35, 12, 20, 0, 0), (.bipush 6, 0, 0, 6, 0)] (by decide +kernel) rfl rfl ?_
    refine sC_ial (n := 1740) (j := 6) (by decide +kernel) (by decide +kernel) rfl rfl (by decide +kernel) ?_
    refine sBk (lo' := [(0, vr 13 0)]) (st' := [vi 24, vi (rI μ 61 0 6)]) (μ' := μ) (pc' := 9) [(.bipush 24, 0, 0, 24, 0)] (by decide +kernel) rfl rfl ?_
    refine sC_idv (by decide +kernel) (by decide +kernel) ?_
    exact sRi (by decide +kernel) (fun h => by cases h)
/-! ClockRiverModel.sumOf -/
def X12_sumOf_L5 : Nat → Int32 → Int32 → Int32 → Int32 → sM → Option (Int32 × sM)
  | 0, _, _, _, _, _ => none
  | n + 1, v1, v2, v3, v4, μ =>
    if v2 ≤ v4 then
      some (v3, μ)
    else
      if inb (v1 + v4) 1740 = true then
        X12_sumOf_L5 n v1 v2 (v3 + (rI μ 61 0 (ix (v1 + v4)))) (v4 + 1) μ
      else none
theorem X12_sumOf_L5_ok : ∀ (n : Nat) (v1 : Int32) (v2 : Int32) (v3 : Int32) (v4 : Int32) (μ : sM), sOk 12 cX12_sumOf 5 1 false 5 [(0, vr 13 0), (1, vi v1), (2, vi v2), (3, vi v3), (4, vi v4)] [] μ (oI (X12_sumOf_L5 n v1 v2 v3 v4 μ)) := by
  intro n
  induction n with
  | zero =>
    intros
    exact sNo
  | succ n ih =>
    intro v1 v2 v3 v4 μ
    unfold X12_sumOf_L5
    refine sBk (lo' := [(0, vr 13 0), (1, vi v1), (2, vi v2), (3, vi v3), (4, vi v4)]) (st' := [vi v2, vi v4]) (μ' := μ) (pc' := 8) [(.iload 4, 0, 0, 0, 0), (.iload_n 2, 0, 0, 0, 0)] (by decide +kernel) rfl rfl ?_
    refine sIc_ge oI (off := 21) (tgt := 29) (by decide +kernel) (by decide) (fun _ => ?_) (fun _ => ?_)
    · refine sBk (lo' := [(0, vr 13 0), (1, vi v1), (2, vi v2), (3, vi v3), (4, vi v4)]) (st' := [vi v3]) (μ' := μ) (pc' := 30) [(.iload_n 3, 0, 0, 0, 0)] (by decide +kernel) rfl rfl ?_
      exact sRi (by decide +kernel) (fun h => by cases h)
    · refine sBk (lo' := [(0, vr 13 0), (1, vi v1), (2, vi v2), (3, vi v3), (4, vi v4)]) (st' := [vi (v1 + v4), vr 61 0, vi v3]) (μ' := μ) (pc' := 20) [(.iload_n 3, 0, 0, 0, 0), (.aload_n 0, 0, 0, 0, 0), (.getfield 35, 12, 20, 0, 0), (.iload_n 1, 0, 0, 0, 0), (.iload 4, 0, 0, 0, 0), (.iadd, 0, 0, 0, 0)] (by decide +kernel) rfl rfl ?_
      refine sS_ial oI rfl (n := 1740) (j := (ix (v1 + v4))) (by decide +kernel) rfl rfl rfl (fun _ => ?_)
      refine sBk (lo' := [(4, vi (v4 + 1)), (3, vi (v3 + (rI μ 61 0 (ix (v1 + v4))))), (0, vr 13 0), (1, vi v1), (2, vi v2)]) (st' := []) (μ' := μ) (pc' := 26) [(.iadd, 0, 0, 0, 0), (.istore_n 3, 0, 0, 0, 0), (.iinc 4 1, 0, 0, 1, 0)] (by decide +kernel) rfl rfl ?_
      refine sGt (off := (-21)) (tgt := 5) (by decide +kernel) (by decide) ?_
      refine sWk (lo' := [(0, vr 13 0), (1, vi v1), (2, vi v2), (3, vi (v3 + (rI μ 61 0 (ix (v1 + v4))))), (4, vi (v4 + 1))]) [2, 3, 4, 1, 0] rfl ?_
      exact ih v1 v2 (v3 + (rI μ 61 0 (ix (v1 + v4)))) (v4 + 1) μ
def X12_sumOf (a1 : Int32) (a2 : Int32) (μ : sM) : Option (Int32 × sM) :=
  X12_sumOf_L5 fuN a1 a2 0 0 μ
theorem tX12_sumOf (a1 : Int32) (a2 : Int32) (μ : sM) : sMt yX12_sumOf cX12_sumOf 5 (some .int) 1 [vr 13 0, vi a1, vi a2] μ (oI (X12_sumOf a1 a2 μ)) := by
  refine sMt_of (own := 12) (bl := false) (by decide +kernel) rfl (Nat.le_of_ble_eq_true rfl) (fun r ρ h => ?_) ?_
  · obtain ⟨q, -, hq⟩ := Option.map_eq_some_iff.mp h
    cases hq
    exact Or.inl rfl
  · unfold X12_sumOf
    show sOk 12 cX12_sumOf 5 1 false 0 [(0, vr 13 0), (1, vi a1), (2, vi a2)] [] μ _
    refine sBk (lo' := [(4, vi 0), (3, vi 0), (0, vr 13 0), (1, vi a1), (2, vi a2)]) (st' := []) (μ' := μ) (pc' := 5) [(.iconst 0, 0, 0, 0, 0), (.istore_n 3, 0, 0, 0, 0), (.iconst 0, 0, 0, 0, 0), (.istore 4, 0, 0, 0, 0)] (by decide +kernel) rfl rfl ?_
    refine sWk (lo' := [(0, vr 13 0), (1, vi a1), (2, vi a2), (3, vi 0), (4, vi 0)]) [2, 3, 4, 1, 0] rfl ?_
    exact X12_sumOf_L5_ok fuN a1 a2 0 0 μ
/-! ClockRiverModel.allGround -/
def X12_allGround (μ : sM) : Option (Int32 × sM) :=
  bI (X12_sumOf 46 (rI μ 61 0 1) μ) fun x1 μ2 =>
    some (x1, μ2)
theorem tX12_allGround (μ : sM) : sMt yX12_allGround cX12_allGround 1 (some .int) 2 [vr 13 0] μ (oI (X12_allGround μ)) := by
  refine sMt_of (own := 12) (bl := false) (by decide +kernel) rfl (Nat.le_of_ble_eq_true rfl) (fun r ρ h => ?_) ?_
  · obtain ⟨q, -, hq⟩ := Option.map_eq_some_iff.mp h
    cases hq
    exact Or.inl rfl
  · unfold X12_allGround
    show sOk 12 cX12_allGround 1 2 false 0 [(0, vr 13 0)] [] μ _
    refine sBk (lo' := [(0, vr 13 0)]) (st' := [vi 1, vr 61 0, vi 46, vr 13 0]) (μ' := μ) (pc' := 8) [(.aload_n 0, 0, 0, 0, 0), (.bipush 46, 0, 0, 46, 0), (.aload_n 0, 0, 0, 0, 0), (.getfield 35, 12, 20, 0, 0), (.iconst 1, 0, 0, 1, 0)] (by decide +kernel) rfl rfl ?_
    refine sC_ial (n := 1740) (j := 1) (by decide +kernel) (by decide +kernel) rfl rfl (by decide +kernel) ?_
    refine sCvI oI rfl (ci := 12) (q := (13, 0)) (avs := [vi 46, vi (rI μ 61 0 1)]) (rest := []) (tX12_sumOf 46 (rI μ 61 0 1) μ) (by decide) (by decide +kernel) lk_12_320 yv_X12_sumOf rfl (by decide) rfl rfl rfl (Nat.le_of_ble_eq_true rfl) (fun x1 μ2 => ?_)
    exact sRi (by decide +kernel) (fun h => by cases h)
/-! ClockRiverModel.many -/
def X12_many (a1 : Int32) (μ : sM) : Option (Int32 × sM) :=
  bI (X12_isIn (Int32.toInt64 a1) 0 12 (wI (wI μ 13 0 1 0) 13 0 0 0)) fun x1 μ2 =>
    if x1 = 0 then
      bI (X12_refuse 5 μ2) fun x11 μ12 =>
        some (x11, μ12)
    else
      if 7 ≤ a1 then
        if a1 = 7 then
          bI (X12_day μ2) fun x9 μ10 =>
            some (x9, μ10)
        else
          if 10 ≤ a1 then
            if a1 = 10 then
              bI (X12_sumOf 28 (rI μ2 61 0 0) μ2) fun x7 μ8 =>
                some (x7, μ8)
            else
              if a1 = 11 then
                bI (X12_sumOf 70 (rI μ2 61 0 2) μ2) fun x5 μ6 =>
                  some (x5, μ6)
              else
                bI (X12_allGround μ2) fun x3 μ4 =>
                  some (x3, μ4)
          else
            if inb (a1 - 1) 1740 = true then
              some ((rI μ2 61 0 (ix (a1 - 1))), μ2)
            else none
      else
        if inb a1 1740 = true then
          some ((rI μ2 61 0 (ix a1)), μ2)
        else none
theorem tX12_many (a1 : Int32) (μ : sM) : sMt yX12_many cX12_many 2 (some .int) 3 [vr 13 0, vi a1] μ (oI (X12_many a1 μ)) := by
  refine sMt_of (own := 12) (bl := false) (by decide +kernel) rfl (Nat.le_of_ble_eq_true rfl) (fun r ρ h => ?_) ?_
  · obtain ⟨q, -, hq⟩ := Option.map_eq_some_iff.mp h
    cases hq
    exact Or.inl rfl
  · unfold X12_many
    show sOk 12 cX12_many 2 3 false 0 [(0, vr 13 0), (1, vi a1)] [] μ _
    refine sBk (lo' := [(0, vr 13 0), (1, vi a1)]) (st' := [vl 12, vl 0, vl (Int32.toInt64 a1)]) (μ' := wI (wI μ 13 0 1 0) 13 0 0 0) (pc' := 16) [(.aload_n 0, 0, 0, 0, 0), (.iconst 0, 0, 0, 0, 0), (.putfield 72, 12, 1, 0, 0), (.aload_n 0, 0, 0, 0, 0), (.iconst 0, 0, 0, 0, 0), (.putfield 75, 12, 0, 0, 0), (.iload_n 1, 0, 0, 0, 0), (.i2l, 0, 0, 0, 0), (.lconst 0, 0, 0, 0, 0), (.ldc2_w 323, 0, 0, 0, 12)] (by decide +kernel) rfl rfl ?_
    refine sCsI oI rfl (avs := [vl (Int32.toInt64 a1), vl 0, vl 12]) (rest := []) (tX12_isIn (Int32.toInt64 a1) 0 12 (wI (wI μ 13 0 1 0) 13 0 0 0)) (by decide) (by decide +kernel) lk_12_107 ys_X12_isIn rfl rfl (Nat.le_of_ble_eq_true rfl) (fun x1 μ2 => ?_)
    refine sIf_ne oI (off := 9) (tgt := 28) (by decide +kernel) (by decide) (fun _ => ?_) (fun _ => ?_)
    · refine sBk (lo' := [(0, vr 13 0), (1, vi a1)]) (st' := [vi 7, vi a1]) (μ' := μ2) (pc' := 31) [(.iload_n 1, 0, 0, 0, 0), (.bipush 7, 0, 0, 7, 0)] (by decide +kernel) rfl rfl ?_
      refine sIc_ge oI (off := 10) (tgt := 41) (by decide +kernel) (by decide) (fun _ => ?_) (fun _ => ?_)
      · refine sBk (lo' := [(0, vr 13 0), (1, vi a1)]) (st' := [vi 7, vi a1]) (μ' := μ2) (pc' := 44) [(.iload_n 1, 0, 0, 0, 0), (.bipush 7, 0, 0, 7, 0)] (by decide +kernel) rfl rfl ?_
        refine sIc_ne oI (off := 8) (tgt := 52) (by decide +kernel) (by decide) (fun _ => ?_) (fun _ => ?_)
        · refine sBk (lo' := [(0, vr 13 0), (1, vi a1)]) (st' := [vi 10, vi a1]) (μ' := μ2) (pc' := 55) [(.iload_n 1, 0, 0, 0, 0), (.bipush 10, 0, 0, 10, 0)] (by decide +kernel) rfl rfl ?_
          refine sIc_ge oI (off := 12) (tgt := 67) (by decide +kernel) (by decide) (fun _ => ?_) (fun _ => ?_)
          · refine sBk (lo' := [(0, vr 13 0), (1, vi a1)]) (st' := [vi 10, vi a1]) (μ' := μ2) (pc' := 70) [(.iload_n 1, 0, 0, 0, 0), (.bipush 10, 0, 0, 10, 0)] (by decide +kernel) rfl rfl ?_
            refine sIc_ne oI (off := 18) (tgt := 88) (by decide +kernel) (by decide) (fun _ => ?_) (fun _ => ?_)
            · refine sBk (lo' := [(0, vr 13 0), (1, vi a1)]) (st' := [vi 11, vi a1]) (μ' := μ2) (pc' := 91) [(.iload_n 1, 0, 0, 0, 0), (.bipush 11, 0, 0, 11, 0)] (by decide +kernel) rfl rfl ?_
              refine sIc_ne oI (off := 18) (tgt := 109) (by decide +kernel) (by decide) (fun _ => ?_) (fun _ => ?_)
              · refine sBk (lo' := [(0, vr 13 0), (1, vi a1)]) (st' := [vr 13 0]) (μ' := μ2) (pc' := 110) [(.aload_n 0, 0, 0, 0, 0)] (by decide +kernel) rfl rfl ?_
                refine sCvI oI rfl (ci := 12) (q := (13, 0)) (avs := []) (rest := []) (tX12_allGround μ2) (by decide) (by decide +kernel) lk_12_331 yv_X12_allGround rfl (by decide) rfl rfl rfl (Nat.le_of_ble_eq_true rfl) (fun x3 μ4 => ?_)
                exact sRi (by decide +kernel) (fun h => by cases h)
              · refine sBk (lo' := [(0, vr 13 0), (1, vi a1)]) (st' := [vi 2, vr 61 0, vi 70, vr 13 0]) (μ' := μ2) (pc' := 102) [(.aload_n 0, 0, 0, 0, 0), (.bipush 70, 0, 0, 70, 0), (.aload_n 0, 0, 0, 0, 0), (.getfield 35, 12, 20, 0, 0), (.iconst 2, 0, 0, 2, 0)] (by decide +kernel) rfl rfl ?_
                refine sC_ial (n := 1740) (j := 2) (by decide +kernel) (by decide +kernel) rfl rfl (by decide +kernel) ?_
                refine sCvI oI rfl (ci := 12) (q := (13, 0)) (avs := [vi 70, vi (rI μ2 61 0 2)]) (rest := []) (tX12_sumOf 70 (rI μ2 61 0 2) μ2) (by decide) (by decide +kernel) lk_12_320 yv_X12_sumOf rfl (by decide) rfl rfl rfl (Nat.le_of_ble_eq_true rfl) (fun x5 μ6 => ?_)
                refine sGt (off := 7) (tgt := 113) (by decide +kernel) (by decide) ?_
                exact sRi (by decide +kernel) (fun h => by cases h)
            · refine sBk (lo' := [(0, vr 13 0), (1, vi a1)]) (st' := [vi 0, vr 61 0, vi 28, vr 13 0]) (μ' := μ2) (pc' := 81) [(.aload_n 0, 0, 0, 0, 0), (.bipush 28, 0, 0, 28, 0), (.aload_n 0, 0, 0, 0, 0), (.getfield 35, 12, 20, 0, 0), (.iconst 0, 0, 0, 0, 0)] (by decide +kernel) rfl rfl ?_
              refine sC_ial (n := 1740) (j := 0) (by decide +kernel) (by decide +kernel) rfl rfl (by decide +kernel) ?_
              refine sCvI oI rfl (ci := 12) (q := (13, 0)) (avs := [vi 28, vi (rI μ2 61 0 0)]) (rest := []) (tX12_sumOf 28 (rI μ2 61 0 0) μ2) (by decide) (by decide +kernel) lk_12_320 yv_X12_sumOf rfl (by decide) rfl rfl rfl (Nat.le_of_ble_eq_true rfl) (fun x7 μ8 => ?_)
              refine sGt (off := 28) (tgt := 113) (by decide +kernel) (by decide) ?_
              exact sRi (by decide +kernel) (fun h => by cases h)
          · refine sBk (lo' := [(0, vr 13 0), (1, vi a1)]) (st' := [vi (a1 - 1), vr 61 0]) (μ' := μ2) (pc' := 65) [(.aload_n 0, 0, 0, 0, 0), (.getfield 35, 12, 20, 0, 0), (.iload_n 1, 0, 0, 0, 0), (.iconst 1, 0, 0, 1, 0), (.isub, 0, 0, 0, 0)] (by decide +kernel) rfl rfl ?_
            refine sS_ial oI rfl (n := 1740) (j := (ix (a1 - 1))) (by decide +kernel) rfl rfl rfl (fun _ => ?_)
            exact sRi (by decide +kernel) (fun h => by cases h)
        · refine sBk (lo' := [(0, vr 13 0), (1, vi a1)]) (st' := [vr 13 0]) (μ' := μ2) (pc' := 48) [(.aload_n 0, 0, 0, 0, 0)] (by decide +kernel) rfl rfl ?_
          refine sCvI oI rfl (ci := 12) (q := (13, 0)) (avs := []) (rest := []) (tX12_day μ2) (by decide) (by decide +kernel) lk_12_328 yv_X12_day rfl (by decide) rfl rfl rfl (Nat.le_of_ble_eq_true rfl) (fun x9 μ10 => ?_)
          exact sRi (by decide +kernel) (fun h => by cases h)
      · refine sBk (lo' := [(0, vr 13 0), (1, vi a1)]) (st' := [vi a1, vr 61 0]) (μ' := μ2) (pc' := 39) [(.aload_n 0, 0, 0, 0, 0), (.getfield 35, 12, 20, 0, 0), (.iload_n 1, 0, 0, 0, 0)] (by decide +kernel) rfl rfl ?_
        refine sS_ial oI rfl (n := 1740) (j := (ix a1)) (by decide +kernel) rfl rfl rfl (fun _ => ?_)
        exact sRi (by decide +kernel) (fun h => by cases h)
    · refine sBk (lo' := [(0, vr 13 0), (1, vi a1)]) (st' := [vi 5, vr 13 0]) (μ' := μ2) (pc' := 24) [(.aload_n 0, 0, 0, 0, 0), (.iconst 5, 0, 0, 5, 0)] (by decide +kernel) rfl rfl ?_
      refine sCvI oI rfl (ci := 12) (q := (13, 0)) (avs := [vi 5]) (rest := []) (tX12_refuse 5 μ2) (by decide) (by decide +kernel) lk_12_325 yv_X12_refuse rfl (by decide) rfl rfl rfl (Nat.le_of_ble_eq_true rfl) (fun x11 μ12 => ?_)
      exact sRi (by decide +kernel) (fun h => by cases h)
/-! ClockRiverModel.turnsLeft -/
def X12_turnsLeft (μ : sM) : Option (Int32 × sM) :=
  some ((rI μ 61 0 9), wI (wI μ 13 0 1 0) 13 0 0 0)
theorem tX12_turnsLeft (μ : sM) : sMt yX12_turnsLeft cX12_turnsLeft 1 (some .int) 1 [vr 13 0] μ (oI (X12_turnsLeft μ)) := by
  refine sMt_of (own := 12) (bl := false) (by decide +kernel) rfl (Nat.le_of_ble_eq_true rfl) (fun r ρ h => ?_) ?_
  · obtain ⟨q, -, hq⟩ := Option.map_eq_some_iff.mp h
    cases hq
    exact Or.inl rfl
  · unfold X12_turnsLeft
    show sOk 12 cX12_turnsLeft 1 1 false 0 [(0, vr 13 0)] [] μ _
    refine sBk (lo' := [(0, vr 13 0)]) (st' := [vi 9, vr 61 0]) (μ' := wI (wI μ 13 0 1 0) 13 0 0 0) (pc' := 16) [(.aload_n 0, 0, 0, 0, 0), (.iconst 0, 0, 0, 0, 0), (.putfield 72, 12, 1, 0, 0), (.aload_n 0, 0, 0, 0, 0), (.iconst 0, 0, 0, 0, 0), (.putfield 75, 12, 0, 0, 0), (.aload_n 0, 0, 0, 0, 0), (.getfield 35, 12, 20, 0, 0), (.bipush 9, 0, 0, 9, 0)] (by decide +kernel) rfl rfl ?_
    refine sC_ial (n := 1740) (j := 9) (by decide +kernel) (by decide +kernel) rfl rfl (by decide +kernel) ?_
    exact sRi (by decide +kernel) (fun h => by cases h)
/-! ClockRiverModel.water -/
def X12_water (a1 : Int32) (μ : sM) : Option (Int64 × sM) :=
  bI (X12_isIn (Int32.toInt64 a1) 0 5 (wI (wI μ 13 0 1 0) 13 0 0 0)) fun x1 μ2 =>
    if x1 = 0 then
      bI (X12_refuse 5 μ2) fun x3 μ4 =>
        some ((Int32.toInt64 x3), μ4)
    else
      if inb (10 + a1) 1740 = true then
        some ((Int32.toInt64 (rI μ2 61 0 (ix (10 + a1)))), μ2)
      else none
theorem tX12_water (a1 : Int32) (μ : sM) : sMt yX12_water cX12_water 2 (some .long) 2 [vr 13 0, vi a1] μ (oL (X12_water a1 μ)) := by
  refine sMt_of (own := 12) (bl := false) (by decide +kernel) rfl (Nat.le_of_ble_eq_true rfl) (fun r ρ h => ?_) ?_
  · obtain ⟨q, -, hq⟩ := Option.map_eq_some_iff.mp h
    cases hq
    exact rfl
  · unfold X12_water
    show sOk 12 cX12_water 2 2 false 0 [(0, vr 13 0), (1, vi a1)] [] μ _
    refine sBk (lo' := [(0, vr 13 0), (1, vi a1)]) (st' := [vl 5, vl 0, vl (Int32.toInt64 a1)]) (μ' := wI (wI μ 13 0 1 0) 13 0 0 0) (pc' := 16) [(.aload_n 0, 0, 0, 0, 0), (.iconst 0, 0, 0, 0, 0), (.putfield 72, 12, 1, 0, 0), (.aload_n 0, 0, 0, 0, 0), (.iconst 0, 0, 0, 0, 0), (.putfield 75, 12, 0, 0, 0), (.iload_n 1, 0, 0, 0, 0), (.i2l, 0, 0, 0, 0), (.lconst 0, 0, 0, 0, 0), (.ldc2_w 334, 0, 0, 0, 5)] (by decide +kernel) rfl rfl ?_
    refine sCsI oL rfl (avs := [vl (Int32.toInt64 a1), vl 0, vl 5]) (rest := []) (tX12_isIn (Int32.toInt64 a1) 0 5 (wI (wI μ 13 0 1 0) 13 0 0 0)) (by decide) (by decide +kernel) lk_12_107 ys_X12_isIn rfl rfl (Nat.le_of_ble_eq_true rfl) (fun x1 μ2 => ?_)
    refine sIf_eq oL (off := 16) (tgt := 35) (by decide +kernel) (by decide) (fun _ => ?_) (fun _ => ?_)
    · refine sBk (lo' := [(0, vr 13 0), (1, vi a1)]) (st' := [vi 5, vr 13 0]) (μ' := μ2) (pc' := 37) [(.aload_n 0, 0, 0, 0, 0), (.iconst 5, 0, 0, 5, 0)] (by decide +kernel) rfl rfl ?_
      refine sCvI oL rfl (ci := 12) (q := (13, 0)) (avs := [vi 5]) (rest := []) (tX12_refuse 5 μ2) (by decide) (by decide +kernel) lk_12_325 yv_X12_refuse rfl (by decide) rfl rfl rfl (Nat.le_of_ble_eq_true rfl) (fun x3 μ4 => ?_)
      refine sBk (lo' := [(0, vr 13 0), (1, vi a1)]) (st' := [vl (Int32.toInt64 x3)]) (μ' := μ4) (pc' := 41) [(.i2l, 0, 0, 0, 0)] (by decide +kernel) rfl rfl ?_
      exact sRl (by decide +kernel)
    · refine sBk (lo' := [(0, vr 13 0), (1, vi a1)]) (st' := [vi (10 + a1), vr 61 0]) (μ' := μ2) (pc' := 30) [(.aload_n 0, 0, 0, 0, 0), (.getfield 35, 12, 20, 0, 0), (.bipush 10, 0, 0, 10, 0), (.iload_n 1, 0, 0, 0, 0), (.iadd, 0, 0, 0, 0)] (by decide +kernel) rfl rfl ?_
      refine sS_ial oL rfl (n := 1740) (j := (ix (10 + a1))) (by decide +kernel) rfl rfl rfl (fun _ => ?_)
      refine sBk (lo' := [(0, vr 13 0), (1, vi a1)]) (st' := [vl (Int32.toInt64 (rI μ2 61 0 (ix (10 + a1))))]) (μ' := μ2) (pc' := 32) [(.i2l, 0, 0, 0, 0)] (by decide +kernel) rfl rfl ?_
      refine sGt (off := 9) (tgt := 41) (by decide +kernel) (by decide) ?_
      exact sRl (by decide +kernel)
/-! ClockRiverModel.isReachAt -/
def X12_isReachAt (a1 : Int32) (μ : sM) : Option (Int32 × sM) :=
  bI (X12_isIn (Int32.toInt64 a1) 0 (Int32.toInt64 ((rI μ 61 0 0) - 1)) μ) fun x1 μ2 =>
    if x1 = 0 ∨ x1 = 1 then some (x1, μ2) else none
theorem tX12_isReachAt (a1 : Int32) (μ : sM) : sMt yX12_isReachAt cX12_isReachAt 2 (some .boolean) 2 [vr 13 0, vi a1] μ (oI (X12_isReachAt a1 μ)) := by
  refine sMt_of (own := 12) (bl := true) (by decide +kernel) rfl (Nat.le_of_ble_eq_true rfl) (fun r ρ h => ?_) ?_
  · obtain ⟨q, -, hq⟩ := Option.map_eq_some_iff.mp h
    cases hq
    exact Or.inr ⟨rfl, rfl⟩
  · unfold X12_isReachAt
    show sOk 12 cX12_isReachAt 2 2 true 0 [(0, vr 13 0), (1, vi a1)] [] μ _
    refine sBk (lo' := [(0, vr 13 0), (1, vi a1)]) (st' := [vi 0, vr 61 0, vl 0, vl (Int32.toInt64 a1)]) (μ' := μ) (pc' := 8) [(.iload_n 1, 0, 0, 0, 0), (.i2l, 0, 0, 0, 0), (.lconst 0, 0, 0, 0, 0), (.aload_n 0, 0, 0, 0, 0), (.getfield 35, 12, 20, 0, 0), (.iconst 0, 0, 0, 0, 0)] (by decide +kernel) rfl rfl ?_
    refine sC_ial (n := 1740) (j := 0) (by decide +kernel) (by decide +kernel) rfl rfl (by decide +kernel) ?_
    refine sBk (lo' := [(0, vr 13 0), (1, vi a1)]) (st' := [vl (Int32.toInt64 ((rI μ 61 0 0) - 1)), vl 0, vl (Int32.toInt64 a1)]) (μ' := μ) (pc' := 12) [(.iconst 1, 0, 0, 1, 0), (.isub, 0, 0, 0, 0), (.i2l, 0, 0, 0, 0)] (by decide +kernel) rfl rfl ?_
    refine sCsI oI rfl (avs := [vl (Int32.toInt64 a1), vl 0, vl (Int32.toInt64 ((rI μ 61 0 0) - 1))]) (rest := []) (tX12_isIn (Int32.toInt64 a1) 0 (Int32.toInt64 ((rI μ 61 0 0) - 1)) μ) (by decide) (by decide +kernel) lk_12_107 ys_X12_isIn rfl rfl (Nat.le_of_ble_eq_true rfl) (fun x1 μ2 => ?_)
    exact sCk oI rfl (fun h => sRi (by decide +kernel) (fun _ => h))
/-! ClockRiverModel.passOf -/
def X12_passOf (a1 : Int32) (μ : sM) : Option (Int32 × sM) :=
  if inb (22 + a1) 1740 = true then
    if inb (28 + a1) 1740 = true then
      some ((imn (rI μ 61 0 (ix (22 + a1))) (rI μ 61 0 (ix (28 + a1)))), μ)
    else none
  else none
theorem tX12_passOf (a1 : Int32) (μ : sM) : sMt yX12_passOf cX12_passOf 2 (some .int) 1 [vr 13 0, vi a1] μ (oI (X12_passOf a1 μ)) := by
  refine sMt_of (own := 12) (bl := false) (by decide +kernel) rfl (Nat.le_of_ble_eq_true rfl) (fun r ρ h => ?_) ?_
  · obtain ⟨q, -, hq⟩ := Option.map_eq_some_iff.mp h
    cases hq
    exact Or.inl rfl
  · unfold X12_passOf
    show sOk 12 cX12_passOf 2 1 false 0 [(0, vr 13 0), (1, vi a1)] [] μ _
    refine sBk (lo' := [(0, vr 13 0), (1, vi a1)]) (st' := [vi (22 + a1), vr 61 0]) (μ' := μ) (pc' := 8) [(.aload_n 0, 0, 0, 0, 0), (.getfield 35, 12, 20, 0, 0), (.bipush 22, 0, 0, 22, 0), (.iload_n 1, 0, 0, 0, 0), (.iadd, 0, 0, 0, 0)] (by decide +kernel) rfl rfl ?_
    refine sS_ial oI rfl (n := 1740) (j := (ix (22 + a1))) (by decide +kernel) rfl rfl rfl (fun _ => ?_)
    refine sBk (lo' := [(0, vr 13 0), (1, vi a1)]) (st' := [vi (28 + a1), vr 61 0, vi (rI μ 61 0 (ix (22 + a1)))]) (μ' := μ) (pc' := 17) [(.aload_n 0, 0, 0, 0, 0), (.getfield 35, 12, 20, 0, 0), (.bipush 28, 0, 0, 28, 0), (.iload_n 1, 0, 0, 0, 0), (.iadd, 0, 0, 0, 0)] (by decide +kernel) rfl rfl ?_
    refine sS_ial oI rfl (n := 1740) (j := (ix (28 + a1))) (by decide +kernel) rfl rfl rfl (fun _ => ?_)
    refine sMin (idx := 336) (p1 := 1911) (by decide +kernel) (by decide) (Nat.le_of_ble_eq_true rfl) ?_
    exact sRi (by decide +kernel) (fun h => by cases h)
/-! ClockRiverModel.millsAt -/
def X12_millsAt_J33 (k4 : Int32 → Int32 → Int32 → sM → Option (Int32 × sM)) (v1 : Int32) (v3 : Int32) (s0 : Int32) (s1 : Int32) (μ : sM) : Option (Int32 × sM) :=
  k4 v1 (s1 + s0) (v3 + 1) μ
theorem X12_millsAt_J33_ok {k4 : Int32 → Int32 → Int32 → sM → Option (Int32 × sM)} (hk4 : ∀ (v1 : Int32) (v2 : Int32) (v3 : Int32) (μ : sM), sOk 12 cX12_millsAt 4 1 false 4 [(0, vr 13 0), (1, vi v1), (2, vi v2), (3, vi v3)] [] μ (oI (k4 v1 v2 v3 μ))) (v1 : Int32) (v3 : Int32) (s0 : Int32) (s1 : Int32) (μ : sM) : sOk 12 cX12_millsAt 4 1 false 33 [(0, vr 13 0), (1, vi v1), (3, vi v3)] [vi s0, vi s1] μ (oI (X12_millsAt_J33 k4 v1 v3 s0 s1 μ)) := by
  unfold X12_millsAt_J33
  refine sBk (lo' := [(3, vi (v3 + 1)), (2, vi (s1 + s0)), (0, vr 13 0), (1, vi v1)]) (st' := []) (μ' := μ) (pc' := 38) [(.iadd, 0, 0, 0, 0), (.istore_n 2, 0, 0, 0, 0), (.iinc 3 1, 0, 0, 1, 0)] (by decide +kernel) rfl rfl ?_
  refine sGt (off := (-34)) (tgt := 4) (by decide +kernel) (by decide) ?_
  refine sWk (lo' := [(0, vr 13 0), (1, vi v1), (2, vi (s1 + s0)), (3, vi (v3 + 1))]) [2, 3, 1, 0] rfl ?_
  exact hk4 v1 (s1 + s0) (v3 + 1) μ
def X12_millsAt_L4 : Nat → Int32 → Int32 → Int32 → sM → Option (Int32 × sM)
  | 0, _, _, _, _ => none
  | n + 1, v1, v2, v3, μ =>
    if (rI μ 61 0 1) ≤ v3 then
      some (v2, μ)
    else
      if inb (34 + v3) 1740 = true then
        if (rI μ 61 0 (ix (34 + v3))) = v1 then
          X12_millsAt_J33 (X12_millsAt_L4 n) v1 v3 1 v2 μ
        else
          X12_millsAt_J33 (X12_millsAt_L4 n) v1 v3 0 v2 μ
      else none
theorem X12_millsAt_L4_ok : ∀ (n : Nat) (v1 : Int32) (v2 : Int32) (v3 : Int32) (μ : sM), sOk 12 cX12_millsAt 4 1 false 4 [(0, vr 13 0), (1, vi v1), (2, vi v2), (3, vi v3)] [] μ (oI (X12_millsAt_L4 n v1 v2 v3 μ)) := by
  intro n
  induction n with
  | zero =>
    intros
    exact sNo
  | succ n ih =>
    intro v1 v2 v3 μ
    unfold X12_millsAt_L4
    refine sBk (lo' := [(0, vr 13 0), (1, vi v1), (2, vi v2), (3, vi v3)]) (st' := [vi 1, vr 61 0, vi v3]) (μ' := μ) (pc' := 10) [(.iload_n 3, 0, 0, 0, 0), (.aload_n 0, 0, 0, 0, 0), (.getfield 35, 12, 20, 0, 0), (.iconst 1, 0, 0, 1, 0)] (by decide +kernel) rfl rfl ?_
    refine sC_ial (n := 1740) (j := 1) (by decide +kernel) (by decide +kernel) rfl rfl (by decide +kernel) ?_
    refine sIc_ge oI (off := 30) (tgt := 41) (by decide +kernel) (by decide) (fun _ => ?_) (fun _ => ?_)
    · refine sBk (lo' := [(0, vr 13 0), (1, vi v1), (2, vi v2), (3, vi v3)]) (st' := [vi v2]) (μ' := μ) (pc' := 42) [(.iload_n 2, 0, 0, 0, 0)] (by decide +kernel) rfl rfl ?_
      exact sRi (by decide +kernel) (fun h => by cases h)
    · refine sBk (lo' := [(0, vr 13 0), (1, vi v1), (2, vi v2), (3, vi v3)]) (st' := [vi (34 + v3), vr 61 0, vi v2]) (μ' := μ) (pc' := 23) [(.iload_n 2, 0, 0, 0, 0), (.aload_n 0, 0, 0, 0, 0), (.getfield 35, 12, 20, 0, 0), (.bipush 34, 0, 0, 34, 0), (.iload_n 3, 0, 0, 0, 0), (.iadd, 0, 0, 0, 0)] (by decide +kernel) rfl rfl ?_
      refine sS_ial oI rfl (n := 1740) (j := (ix (34 + v3))) (by decide +kernel) rfl rfl rfl (fun _ => ?_)
      refine sBk (lo' := [(0, vr 13 0), (1, vi v1), (2, vi v2), (3, vi v3)]) (st' := [vi v1, vi (rI μ 61 0 (ix (34 + v3))), vi v2]) (μ' := μ) (pc' := 25) [(.iload_n 1, 0, 0, 0, 0)] (by decide +kernel) rfl rfl ?_
      refine sIc_ne oI (off := 7) (tgt := 32) (by decide +kernel) (by decide) (fun _ => ?_) (fun _ => ?_)
      · refine sBk (lo' := [(0, vr 13 0), (1, vi v1), (2, vi v2), (3, vi v3)]) (st' := [vi 0, vi v2]) (μ' := μ) (pc' := 33) [(.iconst 0, 0, 0, 0, 0)] (by decide +kernel) rfl rfl ?_
        refine sWk (lo' := [(0, vr 13 0), (1, vi v1), (3, vi v3)]) [0, 1, 3] rfl ?_
        exact X12_millsAt_J33_ok ih v1 v3 0 v2 μ
      · refine sBk (lo' := [(0, vr 13 0), (1, vi v1), (2, vi v2), (3, vi v3)]) (st' := [vi 1, vi v2]) (μ' := μ) (pc' := 29) [(.iconst 1, 0, 0, 1, 0)] (by decide +kernel) rfl rfl ?_
        refine sGt (off := 4) (tgt := 33) (by decide +kernel) (by decide) ?_
        refine sWk (lo' := [(0, vr 13 0), (1, vi v1), (3, vi v3)]) [0, 1, 3] rfl ?_
        exact X12_millsAt_J33_ok ih v1 v3 1 v2 μ
def X12_millsAt (a1 : Int32) (μ : sM) : Option (Int32 × sM) :=
  X12_millsAt_L4 fuN a1 0 0 μ
theorem tX12_millsAt (a1 : Int32) (μ : sM) : sMt yX12_millsAt cX12_millsAt 4 (some .int) 1 [vr 13 0, vi a1] μ (oI (X12_millsAt a1 μ)) := by
  refine sMt_of (own := 12) (bl := false) (by decide +kernel) rfl (Nat.le_of_ble_eq_true rfl) (fun r ρ h => ?_) ?_
  · obtain ⟨q, -, hq⟩ := Option.map_eq_some_iff.mp h
    cases hq
    exact Or.inl rfl
  · unfold X12_millsAt
    show sOk 12 cX12_millsAt 4 1 false 0 [(0, vr 13 0), (1, vi a1)] [] μ _
    refine sBk (lo' := [(3, vi 0), (2, vi 0), (0, vr 13 0), (1, vi a1)]) (st' := []) (μ' := μ) (pc' := 4) [(.iconst 0, 0, 0, 0, 0), (.istore_n 2, 0, 0, 0, 0), (.iconst 0, 0, 0, 0, 0), (.istore_n 3, 0, 0, 0, 0)] (by decide +kernel) rfl rfl ?_
    refine sWk (lo' := [(0, vr 13 0), (1, vi a1), (2, vi 0), (3, vi 0)]) [2, 3, 1, 0] rfl ?_
    exact X12_millsAt_L4_ok fuN a1 0 0 μ
