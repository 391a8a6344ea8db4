theorem lk_11_310 : Cond.methodLink (kRn 11) 310 yX0_hoursTillDry ∈ sT := sT_in (n := 1212) (by decide +kernel) rfl
theorem lk_11_314 : Cond.methodLink (kRn 11) 314 yX11_giveIfAny ∈ sT := sT_in (n := 1217) (by decide +kernel) rfl
theorem lk_11_317 : Cond.methodLink (kRn 11) 317 yX0_hoursTillFlood ∈ sT := sT_in (n := 1225) (by decide +kernel) rfl
theorem lk_11_320 : Cond.methodLink (kRn 11) 320 yX0_hoursTillStill ∈ sT := sT_in (n := 1233) (by decide +kernel) rfl
theorem lk_11_327 : Cond.methodLink (kRn 11) 327 yX0_leastTurns ∈ sT := sT_in (n := 1245) (by decide +kernel) rfl
theorem lk_11_331 : Cond.methodLink (kRn 11) 331 yX11_whyNoGate ∈ sT := sT_in (n := 1253) (by decide +kernel) rfl
theorem lk_11_334 : Cond.methodLink (kRn 11) 334 yX0_findGate ∈ sT := sT_in (n := 1257) (by decide +kernel) rfl
theorem lk_11_344 : Cond.methodLink (kRn 11) 344 yX11_isNoHire ∈ sT := sT_in (n := 1269) (by decide +kernel) rfl
theorem lk_11_348 : Cond.methodLink (kRn 11) 348 yX0_hireFor ∈ sT := sT_in (n := 1272) (by decide +kernel) rfl
theorem lk_11_355 : Cond.methodLink (kRn 11) 355 yX11_isNoSpring ∈ sT := sT_in (n := 1291) (by decide +kernel) rfl
theorem lk_11_358 : Cond.methodLink (kRn 11) 358 yX10_sets ∈ sT := sT_in (n := 1294) (by decide +kernel) rfl
theorem lk_11_361 : Cond.methodLink (kRn 11) 361 yX10_canWind ∈ sT := sT_in (n := 1298) (by decide +kernel) rfl
theorem lk_11_364 : Cond.methodLink (kRn 11) 364 yX10_wagesOf ∈ sT := sT_in (n := 1311) (by decide +kernel) rfl
theorem lk_11_367 : Cond.methodLink (kRn 11) 367 yX0_bestLead ∈ sT := sT_in (n := 1319) (by decide +kernel) rfl
theorem ys_X11_isNoHire : yS yX11_isNoHire cX11_isNoHire 2 (some .boolean) 2 := ⟨⟨sT_in (n := 1271) (by decide +kernel) rfl, sT_in (n := 137) (by decide +kernel) rfl, by decide +kernel, by decide⟩, sT_in (n := 1270) (by decide +kernel) rfl⟩
theorem ys_X11_isNoSpring : yS yX11_isNoSpring cX11_isNoSpring 1 (some .boolean) 1 := ⟨⟨sT_in (n := 1293) (by decide +kernel) rfl, sT_in (n := 137) (by decide +kernel) rfl, by decide +kernel, by decide⟩, sT_in (n := 1292) (by decide +kernel) rfl⟩
theorem yv_X0_bestLead : yV yX0_bestLead cX0_bestLead 5 (some .int) 4 := ⟨⟨sT_in (n := 1322) (by decide +kernel) rfl, sT_in (n := 147) (by decide +kernel) rfl, by decide +kernel, by decide⟩, sT_in (n := 1320) (by decide +kernel) rfl, sT_in (n := 1321) (by decide +kernel) rfl⟩
theorem yv_X0_findGate : yV yX0_findGate cX0_findGate 7 none 3 := ⟨⟨sT_in (n := 1260) (by decide +kernel) rfl, sT_in (n := 147) (by decide +kernel) rfl, by decide +kernel, by decide⟩, sT_in (n := 1258) (by decide +kernel) rfl, sT_in (n := 1259) (by decide +kernel) rfl⟩
theorem yv_X0_hireFor : yV yX0_hireFor cX0_hireFor 4 (some .int) 3 := ⟨⟨sT_in (n := 1275) (by decide +kernel) rfl, sT_in (n := 147) (by decide +kernel) rfl, by decide +kernel, by decide⟩, sT_in (n := 1273) (by decide +kernel) rfl, sT_in (n := 1274) (by decide +kernel) rfl⟩
theorem yv_X0_hoursTillDry : yV yX0_hoursTillDry cX0_hoursTillDry 5 (some .int) 2 := ⟨⟨sT_in (n := 1215) (by decide +kernel) rfl, sT_in (n := 147) (by decide +kernel) rfl, by decide +kernel, by decide⟩, sT_in (n := 1213) (by decide +kernel) rfl, sT_in (n := 1214) (by decide +kernel) rfl⟩
theorem yv_X0_hoursTillFlood : yV yX0_hoursTillFlood cX0_hoursTillFlood 5 (some .int) 2 := ⟨⟨sT_in (n := 1228) (by decide +kernel) rfl, sT_in (n := 147) (by decide +kernel) rfl, by decide +kernel, by decide⟩, sT_in (n := 1226) (by decide +kernel) rfl, sT_in (n := 1227) (by decide +kernel) rfl⟩
theorem yv_X0_hoursTillStill : yV yX0_hoursTillStill cX0_hoursTillStill 4 (some .int) 1 := ⟨⟨sT_in (n := 1236) (by decide +kernel) rfl, sT_in (n := 147) (by decide +kernel) rfl, by decide +kernel, by decide⟩, sT_in (n := 1234) (by decide +kernel) rfl, sT_in (n := 1235) (by decide +kernel) rfl⟩
theorem yv_X0_leastTurns : yV yX0_leastTurns cX0_leastTurns 7 (some .int) 4 := ⟨⟨sT_in (n := 1248) (by decide +kernel) rfl, sT_in (n := 147) (by decide +kernel) rfl, by decide +kernel, by decide⟩, sT_in (n := 1246) (by decide +kernel) rfl, sT_in (n := 1247) (by decide +kernel) rfl⟩
theorem yv_X10_canWind : yV yX10_canWind cX10_canWind 6 (some .boolean) 3 := ⟨⟨sT_in (n := 1301) (by decide +kernel) rfl, sT_in (n := 141) (by decide +kernel) rfl, by decide +kernel, by decide⟩, sT_in (n := 1299) (by decide +kernel) rfl, sT_in (n := 1300) (by decide +kernel) rfl⟩
theorem yv_X10_sets : yV yX10_sets cX10_sets 1 (some .int) 0 := ⟨⟨sT_in (n := 1297) (by decide +kernel) rfl, sT_in (n := 141) (by decide +kernel) rfl, by decide +kernel, by decide⟩, sT_in (n := 1295) (by decide +kernel) rfl, sT_in (n := 1296) (by decide +kernel) rfl⟩
theorem yv_X10_wagesOf : yV yX10_wagesOf cX10_wagesOf 4 (some .int) 1 := ⟨⟨sT_in (n := 1314) (by decide +kernel) rfl, sT_in (n := 141) (by decide +kernel) rfl, by decide +kernel, by decide⟩, sT_in (n := 1312) (by decide +kernel) rfl, sT_in (n := 1313) (by decide +kernel) rfl⟩
theorem yv_X11_giveIfAny : yV yX11_giveIfAny cX11_giveIfAny 2 (some .int) 1 := ⟨⟨sT_in (n := 1220) (by decide +kernel) rfl, sT_in (n := 137) (by decide +kernel) rfl, by decide +kernel, by decide⟩, sT_in (n := 1219) (by decide +kernel) rfl, sT_in (n := 27) (by decide +kernel) rfl⟩
theorem yv_X11_whyNoGate : yV yX11_whyNoGate cX11_whyNoGate 3 (some .int) 2 := ⟨⟨sT_in (n := 1256) (by decide +kernel) rfl, sT_in (n := 137) (by decide +kernel) rfl, by decide +kernel, by decide⟩, sT_in (n := 1255) (by decide +kernel) rfl, sT_in (n := 28) (by decide +kernel) rfl⟩
/-! ClockRiver.groundIn -/
def X11_groundIn (a1 : Int32) (a2 : Int32) (μ : sM) : Option (Int32 × sM) :=
  bI (X4_hasMill 0 a1 μ) fun x1 μ2 =>
    if x1 = 0 then
      bI (X11_refuse 2 μ2) fun x11 μ12 =>
        some (x11, μ12)
    else
      bI (X11_isTooFar a2 μ2) fun x3 μ4 =>
        if x3 = 0 then
          bA (X0_later 0 a2 μ4) fun x5 μ6 =>
            if inb a1 6 = true then
              if inb a1 6 = true then
                bI (X11_give ((rI μ6 27 x5 (ix a1)) - (rI μ6 27 0 (ix a1))) μ6) fun x7 μ8 =>
                  some (x7, μ8)
              else none
            else none
        else
          bI (X11_refuse 5 μ4) fun x9 μ10 =>
            some (x9, μ10)
theorem tX11_groundIn (a1 : Int32) (a2 : Int32) (μ : sM) : sMt yX11_groundIn cX11_groundIn 3 (some .int) 5 [vr 12 0, vi a1, vi a2] μ (oI (X11_groundIn a1 a2 μ)) := by
  refine sMt_of (own := 11) (bl := false) (by decide +kernel) rfl (Nat.le_of_ble_eq_true rfl) (fun r ρ h => ?_) ?_
  · obtain ⟨q, -, hq⟩ := Option.map_eq_some_iff.mp h
    cases hq
    exact Or.inl rfl
  · unfold X11_groundIn
    show sOk 11 cX11_groundIn 3 5 false 0 [(0, vr 12 0), (1, vi a1), (2, vi a2)] [] μ _
    refine sBk (lo' := [(0, vr 12 0), (1, vi a1), (2, vi a2)]) (st' := [vi a1, vr 5 0]) (μ' := μ) (pc' := 5) [(.aload_n 0, 0, 0, 0, 0), (.getfield 16, 11, 4, 0, 0), (.iload_n 1, 0, 0, 0, 0)] (by decide +kernel) rfl rfl ?_
    refine sCvI oI rfl (ci := 4) (q := (5, 0)) (avs := [vi a1]) (rest := []) (tX4_hasMill 0 a1 μ) (by decide) (by decide +kernel) lk_11_226 yv_X4_hasMill rfl (by decide) rfl rfl rfl (Nat.le_of_ble_eq_true rfl) (fun x1 μ2 => ?_)
    refine sIf_ne oI (off := 9) (tgt := 17) (by decide +kernel) (by decide) (fun _ => ?_) (fun _ => ?_)
    · refine sBk (lo' := [(0, vr 12 0), (1, vi a1), (2, vi a2)]) (st' := [vi a2]) (μ' := μ2) (pc' := 18) [(.iload_n 2, 0, 0, 0, 0)] (by decide +kernel) rfl rfl ?_
      refine sCsI oI rfl (avs := [vi a2]) (rest := []) (tX11_isTooFar a2 μ2) (by decide) (by decide +kernel) lk_11_303 ys_X11_isTooFar rfl rfl (Nat.le_of_ble_eq_true rfl) (fun x3 μ4 => ?_)
      refine sIf_eq oI (off := 9) (tgt := 30) (by decide +kernel) (by decide) (fun _ => ?_) (fun _ => ?_)
      · refine sBk (lo' := [(0, vr 12 0), (1, vi a1), (2, vi a2)]) (st' := [vi a2, vr 5 0, vr 1 0, vr 12 0]) (μ' := μ4) (pc' := 40) [(.aload_n 0, 0, 0, 0, 0), (.aload_n 0, 0, 0, 0, 0), (.getfield 66, 11, 12, 0, 0), (.aload_n 0, 0, 0, 0, 0), (.getfield 16, 11, 4, 0, 0), (.iload_n 2, 0, 0, 0, 0)] (by decide +kernel) rfl rfl ?_
        refine sCvA oI rfl (ci := 0) (q := (1, 0)) (avs := [vr 5 0, vi a2]) (rest := [vr 12 0]) (tX0_later 0 a2 μ4) (by decide) (by decide +kernel) lk_11_306 yv_X0_later rfl (by decide) rfl rfl rfl (Nat.le_of_ble_eq_true rfl) (fun x5 μ6 => ?_)
        refine sBk (lo' := [(0, vr 12 0), (1, vi a1), (2, vi a2)]) (st' := [vi a1, vr 27 x5, vr 12 0]) (μ' := μ6) (pc' := 50) [(.getfield 217, 4, 9, 0, 0), (.getfield 235, 2, 4, 0, 0), (.iload_n 1, 0, 0, 0, 0)] (by decide +kernel) rfl rfl ?_
        refine sS_ial oI rfl (n := 6) (j := (ix a1)) (by decide +kernel) rfl rfl rfl (fun _ => ?_)
        refine sBk (lo' := [(0, vr 12 0), (1, vi a1), (2, vi a2)]) (st' := [vi a1, vr 27 0, vi (rI μ6 27 x5 (ix a1)), vr 12 0]) (μ' := μ6) (pc' := 62) [(.aload_n 0, 0, 0, 0, 0), (.getfield 16, 11, 4, 0, 0), (.getfield 217, 4, 9, 0, 0), (.getfield 235, 2, 4, 0, 0), (.iload_n 1, 0, 0, 0, 0)] (by decide +kernel) rfl rfl ?_
        refine sS_ial oI rfl (n := 6) (j := (ix a1)) (by decide +kernel) rfl rfl rfl (fun _ => ?_)
        refine sBk (lo' := [(0, vr 12 0), (1, vi a1), (2, vi a2)]) (st' := [vi ((rI μ6 27 x5 (ix a1)) - (rI μ6 27 0 (ix a1))), vr 12 0]) (μ' := μ6) (pc' := 64) [(.isub, 0, 0, 0, 0)] (by decide +kernel) rfl rfl ?_
        refine sCvI oI rfl (ci := 11) (q := (12, 0)) (avs := [vi ((rI μ6 27 x5 (ix a1)) - (rI μ6 27 0 (ix a1)))]) (rest := []) (tX11_give ((rI μ6 27 x5 (ix a1)) - (rI μ6 27 0 (ix a1))) μ6) (by decide) (by decide +kernel) lk_11_169 yv_X11_give rfl (by decide) rfl rfl rfl (Nat.le_of_ble_eq_true rfl) (fun x7 μ8 => ?_)
        exact sRi (by decide +kernel) (fun h => by cases h)
      · refine sBk (lo' := [(0, vr 12 0), (1, vi a1), (2, vi a2)]) (st' := [vi 5, vr 12 0]) (μ' := μ4) (pc' := 26) [(.aload_n 0, 0, 0, 0, 0), (.iconst 5, 0, 0, 5, 0)] (by decide +kernel) rfl rfl ?_
        refine sCvI oI rfl (ci := 11) (q := (12, 0)) (avs := [vi 5]) (rest := []) (tX11_refuse 5 μ4) (by decide) (by decide +kernel) lk_11_110 yv_X11_refuse rfl (by decide) rfl rfl rfl (Nat.le_of_ble_eq_true rfl) (fun x9 μ10 => ?_)
        exact sRi (by decide +kernel) (fun h => by cases h)
    · refine sBk (lo' := [(0, vr 12 0), (1, vi a1), (2, vi a2)]) (st' := [vi 2, vr 12 0]) (μ' := μ2) (pc' := 13) [(.aload_n 0, 0, 0, 0, 0), (.iconst 2, 0, 0, 2, 0)] (by decide +kernel) rfl rfl ?_
      refine sCvI oI rfl (ci := 11) (q := (12, 0)) (avs := [vi 2]) (rest := []) (tX11_refuse 2 μ2) (by decide) (by decide +kernel) lk_11_110 yv_X11_refuse rfl (by decide) rfl rfl rfl (Nat.le_of_ble_eq_true rfl) (fun x11 μ12 => ?_)
      exact sRi (by decide +kernel) (fun h => by cases h)
/-! ClockRiver.seaIn -/
def X11_seaIn (a1 : Int32) (μ : sM) : Option (Int64 × sM) :=
  bI (X11_isTooFar a1 μ) fun x1 μ2 =>
    if x1 = 0 then
      bA (X0_later 0 a1 (wI μ2 12 0 0 0)) fun x3 μ4 =>
        some (((rL μ4 34 x3 0) - (rL μ4 34 0 0)), μ4)
    else
      bI (X11_refuse 5 μ2) fun x5 μ6 =>
        some ((Int32.toInt64 x5), μ6)
theorem tX11_seaIn (a1 : Int32) (μ : sM) : sMt yX11_seaIn cX11_seaIn 2 (some .long) 5 [vr 12 0, vi a1] μ (oL (X11_seaIn a1 μ)) := by
  refine sMt_of (own := 11) (bl := false) (by decide +kernel) rfl (Nat.le_of_ble_eq_true rfl) (fun r ρ h => ?_) ?_
  · obtain ⟨q, -, hq⟩ := Option.map_eq_some_iff.mp h
    cases hq
    exact rfl
  · unfold X11_seaIn
    show sOk 11 cX11_seaIn 2 5 false 0 [(0, vr 12 0), (1, vi a1)] [] μ _
    refine sBk (lo' := [(0, vr 12 0), (1, vi a1)]) (st' := [vi a1]) (μ' := μ) (pc' := 1) [(.iload_n 1, 0, 0, 0, 0)] (by decide +kernel) rfl rfl ?_
    refine sCsI oL rfl (avs := [vi a1]) (rest := []) (tX11_isTooFar a1 μ) (by decide) (by decide +kernel) lk_11_303 ys_X11_isTooFar rfl rfl (Nat.le_of_ble_eq_true rfl) (fun x1 μ2 => ?_)
    refine sIf_eq oL (off := 10) (tgt := 14) (by decide +kernel) (by decide) (fun _ => ?_) (fun _ => ?_)
    · refine sBk (lo' := [(0, vr 12 0), (1, vi a1)]) (st' := [vi a1, vr 5 0, vr 1 0]) (μ' := wI μ2 12 0 0 0) (pc' := 28) [(.aload_n 0, 0, 0, 0, 0), (.iconst 0, 0, 0, 0, 0), (.putfield 80, 11, 0, 0, 0), (.aload_n 0, 0, 0, 0, 0), (.getfield 66, 11, 12, 0, 0), (.aload_n 0, 0, 0, 0, 0), (.getfield 16, 11, 4, 0, 0), (.iload_n 1, 0, 0, 0, 0)] (by decide +kernel) rfl rfl ?_
      refine sCvA oL rfl (ci := 0) (q := (1, 0)) (avs := [vr 5 0, vi a1]) (rest := []) (tX0_later 0 a1 (wI μ2 12 0 0 0)) (by decide) (by decide +kernel) lk_11_306 yv_X0_later rfl (by decide) rfl rfl rfl (Nat.le_of_ble_eq_true rfl) (fun x3 μ4 => ?_)
      refine sBk (lo' := [(0, vr 12 0), (1, vi a1)]) (st' := [vi 0, vr 34 x3]) (μ' := μ4) (pc' := 35) [(.getfield 196, 4, 7, 0, 0), (.iconst 0, 0, 0, 0, 0)] (by decide +kernel) rfl rfl ?_
      refine sC_lal (n := 6) (j := 0) (by decide +kernel) (by decide +kernel) rfl rfl (by decide +kernel) ?_
      refine sBk (lo' := [(0, vr 12 0), (1, vi a1)]) (st' := [vi 0, vr 34 0, vl (rL μ4 34 x3 0)]) (μ' := μ4) (pc' := 44) [(.aload_n 0, 0, 0, 0, 0), (.getfield 16, 11, 4, 0, 0), (.getfield 196, 4, 7, 0, 0), (.iconst 0, 0, 0, 0, 0)] (by decide +kernel) rfl rfl ?_
      refine sC_lal (n := 6) (j := 0) (by decide +kernel) (by decide +kernel) rfl rfl (by decide +kernel) ?_
      refine sBk (lo' := [(0, vr 12 0), (1, vi a1)]) (st' := [vl ((rL μ4 34 x3 0) - (rL μ4 34 0 0))]) (μ' := μ4) (pc' := 46) [(.lsub, 0, 0, 0, 0)] (by decide +kernel) rfl rfl ?_
      exact sRl (by decide +kernel)
    · refine sBk (lo' := [(0, vr 12 0), (1, vi a1)]) (st' := [vi 5, vr 12 0]) (μ' := μ2) (pc' := 9) [(.aload_n 0, 0, 0, 0, 0), (.iconst 5, 0, 0, 5, 0)] (by decide +kernel) rfl rfl ?_
      refine sCvI oL rfl (ci := 11) (q := (12, 0)) (avs := [vi 5]) (rest := []) (tX11_refuse 5 μ2) (by decide) (by decide +kernel) lk_11_110 yv_X11_refuse rfl (by decide) rfl rfl rfl (Nat.le_of_ble_eq_true rfl) (fun x5 μ6 => ?_)
      refine sBk (lo' := [(0, vr 12 0), (1, vi a1)]) (st' := [vl (Int32.toInt64 x5)]) (μ' := μ6) (pc' := 13) [(.i2l, 0, 0, 0, 0)] (by decide +kernel) rfl rfl ?_
      exact sRl (by decide +kernel)
/-! ClockRiver.giveIfAny -/
def X11_giveIfAny (a1 : Int32) (μ : sM) : Option (Int32 × sM) :=
  if a1 = (-1) then
    bI (X11_refuse 8 μ) fun x3 μ4 =>
      some (x3, μ4)
  else
    bI (X11_give a1 μ) fun x1 μ2 =>
      some (x1, μ2)
theorem tX11_giveIfAny (a1 : Int32) (μ : sM) : sMt yX11_giveIfAny cX11_giveIfAny 2 (some .int) 2 [vr 12 0, vi a1] μ (oI (X11_giveIfAny a1 μ)) := by
  refine sMt_of (own := 11) (bl := false) (by decide +kernel) rfl (Nat.le_of_ble_eq_true rfl) (fun r ρ h => ?_) ?_
  · obtain ⟨q, -, hq⟩ := Option.map_eq_some_iff.mp h
    cases hq
    exact Or.inl rfl
  · unfold X11_giveIfAny
    show sOk 11 cX11_giveIfAny 2 2 false 0 [(0, vr 12 0), (1, vi a1)] [] μ _
    refine sBk (lo' := [(0, vr 12 0), (1, vi a1)]) (st' := [vi (-1), vi a1]) (μ' := μ) (pc' := 2) [(.iload_n 1, 0, 0, 0, 0), (.iconst (-1), 0, 0, (-1), 0)] (by decide +kernel) rfl rfl ?_
    refine sIc_ne oI (off := 12) (tgt := 14) (by decide +kernel) (by decide) (fun _ => ?_) (fun _ => ?_)
    · refine sBk (lo' := [(0, vr 12 0), (1, vi a1)]) (st' := [vi a1, vr 12 0]) (μ' := μ) (pc' := 16) [(.aload_n 0, 0, 0, 0, 0), (.iload_n 1, 0, 0, 0, 0)] (by decide +kernel) rfl rfl ?_
      refine sCvI oI rfl (ci := 11) (q := (12, 0)) (avs := [vi a1]) (rest := []) (tX11_give a1 μ) (by decide) (by decide +kernel) lk_11_169 yv_X11_give rfl (by decide) rfl rfl rfl (Nat.le_of_ble_eq_true rfl) (fun x1 μ2 => ?_)
      exact sRi (by decide +kernel) (fun h => by cases h)
    · refine sBk (lo' := [(0, vr 12 0), (1, vi a1)]) (st' := [vi 8, vr 12 0]) (μ' := μ) (pc' := 8) [(.aload_n 0, 0, 0, 0, 0), (.bipush 8, 0, 0, 8, 0)] (by decide +kernel) rfl rfl ?_
      refine sCvI oI rfl (ci := 11) (q := (12, 0)) (avs := [vi 8]) (rest := []) (tX11_refuse 8 μ) (by decide) (by decide +kernel) lk_11_110 yv_X11_refuse rfl (by decide) rfl rfl rfl (Nat.le_of_ble_eq_true rfl) (fun x3 μ4 => ?_)
      refine sGt (off := 8) (tgt := 19) (by decide +kernel) (by decide) ?_
      exact sRi (by decide +kernel) (fun h => by cases h)
/-! ClockRiver.dryIn -/
def X11_dryIn (a1 : Int32) (μ : sM) : Option (Int32 × sM) :=
  bI (X4_hasReach 0 a1 μ) fun x1 μ2 =>
    if x1 = 0 then
      bI (X11_refuse 2 μ2) fun x7 μ8 =>
        some (x7, μ8)
    else
      bI (X0_hoursTillDry 0 a1 μ2) fun x3 μ4 =>
        bI (X11_giveIfAny x3 μ4) fun x5 μ6 =>
          some (x5, μ6)
theorem tX11_dryIn (a1 : Int32) (μ : sM) : sMt yX11_dryIn cX11_dryIn 2 (some .int) 5 [vr 12 0, vi a1] μ (oI (X11_dryIn a1 μ)) := by
  refine sMt_of (own := 11) (bl := false) (by decide +kernel) rfl (Nat.le_of_ble_eq_true rfl) (fun r ρ h => ?_) ?_
  · obtain ⟨q, -, hq⟩ := Option.map_eq_some_iff.mp h
    cases hq
    exact Or.inl rfl
  · unfold X11_dryIn
    show sOk 11 cX11_dryIn 2 5 false 0 [(0, vr 12 0), (1, vi a1)] [] μ _
    refine sBk (lo' := [(0, vr 12 0), (1, vi a1)]) (st' := [vi a1, vr 5 0]) (μ' := μ) (pc' := 5) [(.aload_n 0, 0, 0, 0, 0), (.getfield 16, 11, 4, 0, 0), (.iload_n 1, 0, 0, 0, 0)] (by decide +kernel) rfl rfl ?_
    refine sCvI oI rfl (ci := 4) (q := (5, 0)) (avs := [vi a1]) (rest := []) (tX4_hasReach 0 a1 μ) (by decide) (by decide +kernel) lk_11_200 yv_X4_hasReach rfl (by decide) rfl rfl rfl (Nat.le_of_ble_eq_true rfl) (fun x1 μ2 => ?_)
    refine sIf_ne oI (off := 9) (tgt := 17) (by decide +kernel) (by decide) (fun _ => ?_) (fun _ => ?_)
    · refine sBk (lo' := [(0, vr 12 0), (1, vi a1)]) (st' := [vi a1, vr 5 0, vr 1 0, vr 12 0]) (μ' := μ2) (pc' := 27) [(.aload_n 0, 0, 0, 0, 0), (.aload_n 0, 0, 0, 0, 0), (.getfield 66, 11, 12, 0, 0), (.aload_n 0, 0, 0, 0, 0), (.getfield 16, 11, 4, 0, 0), (.iload_n 1, 0, 0, 0, 0)] (by decide +kernel) rfl rfl ?_
      refine sCvI oI rfl (ci := 0) (q := (1, 0)) (avs := [vr 5 0, vi a1]) (rest := [vr 12 0]) (tX0_hoursTillDry 0 a1 μ2) (by decide) (by decide +kernel) lk_11_310 yv_X0_hoursTillDry rfl (by decide) rfl rfl rfl (Nat.le_of_ble_eq_true rfl) (fun x3 μ4 => ?_)
      refine sCvI oI rfl (ci := 11) (q := (12, 0)) (avs := [vi x3]) (rest := []) (tX11_giveIfAny x3 μ4) (by decide) (by decide +kernel) lk_11_314 yv_X11_giveIfAny rfl (by decide) rfl rfl rfl (Nat.le_of_ble_eq_true rfl) (fun x5 μ6 => ?_)
      exact sRi (by decide +kernel) (fun h => by cases h)
    · refine sBk (lo' := [(0, vr 12 0), (1, vi a1)]) (st' := [vi 2, vr 12 0]) (μ' := μ2) (pc' := 13) [(.aload_n 0, 0, 0, 0, 0), (.iconst 2, 0, 0, 2, 0)] (by decide +kernel) rfl rfl ?_
      refine sCvI oI rfl (ci := 11) (q := (12, 0)) (avs := [vi 2]) (rest := []) (tX11_refuse 2 μ2) (by decide) (by decide +kernel) lk_11_110 yv_X11_refuse rfl (by decide) rfl rfl rfl (Nat.le_of_ble_eq_true rfl) (fun x7 μ8 => ?_)
      exact sRi (by decide +kernel) (fun h => by cases h)
/-! ClockRiver.floodIn -/
def X11_floodIn (a1 : Int32) (μ : sM) : Option (Int32 × sM) :=
  bI (X4_hasReach 0 a1 μ) fun x1 μ2 =>
    if x1 = 0 then
      bI (X11_refuse 2 μ2) fun x7 μ8 =>
        some (x7, μ8)
    else
      bI (X0_hoursTillFlood 0 a1 μ2) fun x3 μ4 =>
        bI (X11_giveIfAny x3 μ4) fun x5 μ6 =>
          some (x5, μ6)
theorem tX11_floodIn (a1 : Int32) (μ : sM) : sMt yX11_floodIn cX11_floodIn 2 (some .int) 5 [vr 12 0, vi a1] μ (oI (X11_floodIn a1 μ)) := by
  refine sMt_of (own := 11) (bl := false) (by decide +kernel) rfl (Nat.le_of_ble_eq_true rfl) (fun r ρ h => ?_) ?_
  · obtain ⟨q, -, hq⟩ := Option.map_eq_some_iff.mp h
    cases hq
    exact Or.inl rfl
  · unfold X11_floodIn
    show sOk 11 cX11_floodIn 2 5 false 0 [(0, vr 12 0), (1, vi a1)] [] μ _
    refine sBk (lo' := [(0, vr 12 0), (1, vi a1)]) (st' := [vi a1, vr 5 0]) (μ' := μ) (pc' := 5) [(.aload_n 0, 0, 0, 0, 0), (.getfield 16, 11, 4, 0, 0), (.iload_n 1, 0, 0, 0, 0)] (by decide +kernel) rfl rfl ?_
    refine sCvI oI rfl (ci := 4) (q := (5, 0)) (avs := [vi a1]) (rest := []) (tX4_hasReach 0 a1 μ) (by decide) (by decide +kernel) lk_11_200 yv_X4_hasReach rfl (by decide) rfl rfl rfl (Nat.le_of_ble_eq_true rfl) (fun x1 μ2 => ?_)
    refine sIf_ne oI (off := 9) (tgt := 17) (by decide +kernel) (by decide) (fun _ => ?_) (fun _ => ?_)
    · refine sBk (lo' := [(0, vr 12 0), (1, vi a1)]) (st' := [vi a1, vr 5 0, vr 1 0, vr 12 0]) (μ' := μ2) (pc' := 27) [(.aload_n 0, 0, 0, 0, 0), (.aload_n 0, 0, 0, 0, 0), (.getfield 66, 11, 12, 0, 0), (.aload_n 0, 0, 0, 0, 0), (.getfield 16, 11, 4, 0, 0), (.iload_n 1, 0, 0, 0, 0)] (by decide +kernel) rfl rfl ?_
      refine sCvI oI rfl (ci := 0) (q := (1, 0)) (avs := [vr 5 0, vi a1]) (rest := [vr 12 0]) (tX0_hoursTillFlood 0 a1 μ2) (by decide) (by decide +kernel) lk_11_317 yv_X0_hoursTillFlood rfl (by decide) rfl rfl rfl (Nat.le_of_ble_eq_true rfl) (fun x3 μ4 => ?_)
      refine sCvI oI rfl (ci := 11) (q := (12, 0)) (avs := [vi x3]) (rest := []) (tX11_giveIfAny x3 μ4) (by decide) (by decide +kernel) lk_11_314 yv_X11_giveIfAny rfl (by decide) rfl rfl rfl (Nat.le_of_ble_eq_true rfl) (fun x5 μ6 => ?_)
      exact sRi (by decide +kernel) (fun h => by cases h)
    · refine sBk (lo' := [(0, vr 12 0), (1, vi a1)]) (st' := [vi 2, vr 12 0]) (μ' := μ2) (pc' := 13) [(.aload_n 0, 0, 0, 0, 0), (.iconst 2, 0, 0, 2, 0)] (by decide +kernel) rfl rfl ?_
      refine sCvI oI rfl (ci := 11) (q := (12, 0)) (avs := [vi 2]) (rest := []) (tX11_refuse 2 μ2) (by decide) (by decide +kernel) lk_11_110 yv_X11_refuse rfl (by decide) rfl rfl rfl (Nat.le_of_ble_eq_true rfl) (fun x7 μ8 => ?_)
      exact sRi (by decide +kernel) (fun h => by cases h)
/-! ClockRiver.stillIn -/
def X11_stillIn (μ : sM) : Option (Int32 × sM) :=
  bI (X0_hoursTillStill 0 μ) fun x1 μ2 =>
    bI (X11_giveIfAny x1 μ2) fun x3 μ4 =>
      some (x3, μ4)
theorem tX11_stillIn (μ : sM) : sMt yX11_stillIn cX11_stillIn 1 (some .int) 5 [vr 12 0] μ (oI (X11_stillIn μ)) := by
  refine sMt_of (own := 11) (bl := false) (by decide +kernel) rfl (Nat.le_of_ble_eq_true rfl) (fun r ρ h => ?_) ?_
  · obtain ⟨q, -, hq⟩ := Option.map_eq_some_iff.mp h
    cases hq
    exact Or.inl rfl
  · unfold X11_stillIn
    show sOk 11 cX11_stillIn 1 5 false 0 [(0, vr 12 0)] [] μ _
    refine sBk (lo' := [(0, vr 12 0)]) (st' := [vr 5 0, vr 1 0, vr 12 0]) (μ' := μ) (pc' := 9) [(.aload_n 0, 0, 0, 0, 0), (.aload_n 0, 0, 0, 0, 0), (.getfield 66, 11, 12, 0, 0), (.aload_n 0, 0, 0, 0, 0), (.getfield 16, 11, 4, 0, 0)] (by decide +kernel) rfl rfl ?_
    refine sCvI oI rfl (ci := 0) (q := (1, 0)) (avs := [vr 5 0]) (rest := [vr 12 0]) (tX0_hoursTillStill 0 μ) (by decide) (by decide +kernel) lk_11_320 yv_X0_hoursTillStill rfl (by decide) rfl rfl rfl (Nat.le_of_ble_eq_true rfl) (fun x1 μ2 => ?_)
    refine sCvI oI rfl (ci := 11) (q := (12, 0)) (avs := [vi x1]) (rest := []) (tX11_giveIfAny x1 μ2) (by decide) (by decide +kernel) lk_11_314 yv_X11_giveIfAny rfl (by decide) rfl rfl rfl (Nat.le_of_ble_eq_true rfl) (fun x3 μ4 => ?_)
    exact sRi (by decide +kernel) (fun h => by cases h)
/-! ClockRiver.lawIn -/
def X11_lawIn_J28 (s0 : Int32) (μ : sM) : Option (Int32 × sM) :=
  bI (X11_give s0 μ) fun x1 μ2 =>
    some (x1, μ2)
theorem X11_lawIn_J28_ok (s0 : Int32) (μ : sM) : sOk 11 cX11_lawIn 1 2 false 28 [] [vi s0, vr 12 0] μ (oI (X11_lawIn_J28 s0 μ)) := by
  unfold X11_lawIn_J28
  refine sCvI oI rfl (ci := 11) (q := (12, 0)) (avs := [vi s0]) (rest := []) (tX11_give s0 μ) (by decide) (by decide +kernel) lk_11_169 yv_X11_give rfl (by decide) rfl rfl rfl (Nat.le_of_ble_eq_true rfl) (fun x1 μ2 => ?_)
  exact sRi (by decide +kernel) (fun h => by cases h)
def X11_lawIn (μ : sM) : Option (Int32 × sM) :=
  bI (X4_isLawDay 0 μ) fun x1 μ2 =>
    if x1 = 0 then
      X11_lawIn_J28 0 μ2
    else
      X11_lawIn_J28 (24 - (irm (rI μ2 5 0 4) 24)) μ2
theorem tX11_lawIn (μ : sM) : sMt yX11_lawIn cX11_lawIn 1 (some .int) 2 [vr 12 0] μ (oI (X11_lawIn μ)) := by
  refine sMt_of (own := 11) (bl := false) (by decide +kernel) rfl (Nat.le_of_ble_eq_true rfl) (fun r ρ h => ?_) ?_
  · obtain ⟨q, -, hq⟩ := Option.map_eq_some_iff.mp h
    cases hq
    exact Or.inl rfl
  · unfold X11_lawIn
    show sOk 11 cX11_lawIn 1 2 false 0 [(0, vr 12 0)] [] μ _
    refine sBk (lo' := [(0, vr 12 0)]) (st' := [vr 5 0, vr 12 0]) (μ' := μ) (pc' := 5) [(.aload_n 0, 0, 0, 0, 0), (.aload_n 0, 0, 0, 0, 0), (.getfield 16, 11, 4, 0, 0)] (by decide +kernel) rfl rfl ?_
    refine sCvI oI rfl (ci := 4) (q := (5, 0)) (avs := []) (rest := [vr 12 0]) (tX4_isLawDay 0 μ) (by decide) (by decide +kernel) lk_11_268 yv_X4_isLawDay rfl (by decide) rfl rfl rfl (Nat.le_of_ble_eq_true rfl) (fun x1 μ2 => ?_)
    refine sIf_eq oI (off := 19) (tgt := 27) (by decide +kernel) (by decide) (fun _ => ?_) (fun _ => ?_)
    · refine sBk (lo' := [(0, vr 12 0)]) (st' := [vi 0, vr 12 0]) (μ' := μ2) (pc' := 28) [(.iconst 0, 0, 0, 0, 0)] (by decide +kernel) rfl rfl ?_
      refine sWk (lo' := []) [] rfl ?_
      exact X11_lawIn_J28_ok 0 μ2
    · refine sBk (lo' := [(0, vr 12 0)]) (st' := [vi 24, vi (rI μ2 5 0 4), vi 24, vr 12 0]) (μ' := μ2) (pc' := 22) [(.bipush 24, 0, 0, 24, 0), (.aload_n 0, 0, 0, 0, 0), (.getfield 16, 11, 4, 0, 0), (.getfield 324, 4, 4, 0, 0), (.bipush 24, 0, 0, 24, 0)] (by decide +kernel) rfl rfl ?_
      refine sC_irm (by decide +kernel) (by decide +kernel) ?_
      refine sBk (lo' := [(0, vr 12 0)]) (st' := [vi (24 - (irm (rI μ2 5 0 4) 24)), vr 12 0]) (μ' := μ2) (pc' := 24) [(.isub, 0, 0, 0, 0)] (by decide +kernel) rfl rfl ?_
      refine sGt (off := 4) (tgt := 28) (by decide +kernel) (by decide) ?_
      refine sWk (lo' := []) [] rfl ?_
      exact X11_lawIn_J28_ok (24 - (irm (rI μ2 5 0 4) 24)) μ2
/-! ClockRiver.enough -/
def X11_enough_J36 (μ : sM) : Option (Int32 × sM) :=
  bI (X11_refuse 5 μ) fun x1 μ2 =>
    some (x1, μ2)
theorem X11_enough_J36_ok (μ : sM) : sOk 11 cX11_enough 4 5 false 36 [(0, vr 12 0)] [] μ (oI (X11_enough_J36 μ)) := by
  unfold X11_enough_J36
  refine sBk (lo' := [(0, vr 12 0)]) (st' := [vi 5, vr 12 0]) (μ' := μ) (pc' := 38) [(.aload_n 0, 0, 0, 0, 0), (.iconst 5, 0, 0, 5, 0)] (by decide +kernel) rfl rfl ?_
  refine sCvI oI rfl (ci := 11) (q := (12, 0)) (avs := [vi 5]) (rest := []) (tX11_refuse 5 μ) (by decide) (by decide +kernel) lk_11_110 yv_X11_refuse rfl (by decide) rfl rfl rfl (Nat.le_of_ble_eq_true rfl) (fun x1 μ2 => ?_)
  exact sRi (by decide +kernel) (fun h => by cases h)
def X11_enough (a1 : Int32) (a2 : Int32) (a3 : Int32) (μ : sM) : Option (Int32 × sM) :=
  bI (X4_hasMill 0 a1 μ) fun x1 μ2 =>
    if x1 = 0 then
      bI (X11_refuse 2 μ2) fun x7 μ8 =>
        some (x7, μ8)
    else
      if a2 < 0 then
        X11_enough_J36 μ2
      else
        if 100 < a2 then
          X11_enough_J36 μ2
        else
          if a3 < 0 then
            X11_enough_J36 μ2
          else
            if a3 ≤ a2 then
              bI (X0_leastTurns 0 a1 a2 a3 μ2) fun x3 μ4 =>
                bI (X11_giveIfAny x3 μ4) fun x5 μ6 =>
                  some (x5, μ6)
            else
              X11_enough_J36 μ2
theorem tX11_enough (a1 : Int32) (a2 : Int32) (a3 : Int32) (μ : sM) : sMt yX11_enough cX11_enough 4 (some .int) 5 [vr 12 0, vi a1, vi a2, vi a3] μ (oI (X11_enough a1 a2 a3 μ)) := by
  refine sMt_of (own := 11) (bl := false) (by decide +kernel) rfl (Nat.le_of_ble_eq_true rfl) (fun r ρ h => ?_) ?_
  · obtain ⟨q, -, hq⟩ := Option.map_eq_some_iff.mp h
    cases hq
    exact Or.inl rfl
  · unfold X11_enough
    show sOk 11 cX11_enough 4 5 false 0 [(0, vr 12 0), (1, vi a1), (2, vi a2), (3, vi a3)] [] μ _
    refine sBk (lo' := [(0, vr 12 0), (1, vi a1), (2, vi a2), (3, vi a3)]) (st' := [vi a1, vr 5 0]) (μ' := μ) (pc' := 5) [(.aload_n 0, 0, 0, 0, 0), (.getfield 16, 11, 4, 0, 0), (.iload_n 1, 0, 0, 0, 0)] (by decide +kernel) rfl rfl ?_
    refine sCvI oI rfl (ci := 4) (q := (5, 0)) (avs := [vi a1]) (rest := []) (tX4_hasMill 0 a1 μ) (by decide) (by decide +kernel) lk_11_226 yv_X4_hasMill rfl (by decide) rfl rfl rfl (Nat.le_of_ble_eq_true rfl) (fun x1 μ2 => ?_)
    refine sIf_ne oI (off := 9) (tgt := 17) (by decide +kernel) (by decide) (fun _ => ?_) (fun _ => ?_)
    · refine sBk (lo' := [(0, vr 12 0), (1, vi a1), (2, vi a2), (3, vi a3)]) (st' := [vi a2]) (μ' := μ2) (pc' := 18) [(.iload_n 2, 0, 0, 0, 0)] (by decide +kernel) rfl rfl ?_
      refine sIf_lt oI (off := 18) (tgt := 36) (by decide +kernel) (by decide) (fun _ => ?_) (fun _ => ?_)
      · refine sWk (lo' := [(0, vr 12 0)]) [0] rfl ?_
        exact X11_enough_J36_ok μ2
      · refine sBk (lo' := [(0, vr 12 0), (1, vi a1), (2, vi a2), (3, vi a3)]) (st' := [vi 100, vi a2]) (μ' := μ2) (pc' := 24) [(.iload_n 2, 0, 0, 0, 0), (.bipush 100, 0, 0, 100, 0)] (by decide +kernel) rfl rfl ?_
        refine sIc_gt oI (off := 12) (tgt := 36) (by decide +kernel) (by decide) (fun _ => ?_) (fun _ => ?_)
        · refine sWk (lo' := [(0, vr 12 0)]) [0] rfl ?_
          exact X11_enough_J36_ok μ2
        · refine sBk (lo' := [(0, vr 12 0), (1, vi a1), (2, vi a2), (3, vi a3)]) (st' := [vi a3]) (μ' := μ2) (pc' := 28) [(.iload_n 3, 0, 0, 0, 0)] (by decide +kernel) rfl rfl ?_
          refine sIf_lt oI (off := 8) (tgt := 36) (by decide +kernel) (by decide) (fun _ => ?_) (fun _ => ?_)
          · refine sWk (lo' := [(0, vr 12 0)]) [0] rfl ?_
            exact X11_enough_J36_ok μ2
          · refine sBk (lo' := [(0, vr 12 0), (1, vi a1), (2, vi a2), (3, vi a3)]) (st' := [vi a2, vi a3]) (μ' := μ2) (pc' := 33) [(.iload_n 3, 0, 0, 0, 0), (.iload_n 2, 0, 0, 0, 0)] (by decide +kernel) rfl rfl ?_
            refine sIc_le oI (off := 9) (tgt := 42) (by decide +kernel) (by decide) (fun _ => ?_) (fun _ => ?_)
            · refine sBk (lo' := [(0, vr 12 0), (1, vi a1), (2, vi a2), (3, vi a3)]) (st' := [vi a3, vi a2, vi a1, vr 5 0, vr 1 0, vr 12 0]) (μ' := μ2) (pc' := 54) [(.aload_n 0, 0, 0, 0, 0), (.aload_n 0, 0, 0, 0, 0), (.getfield 66, 11, 12, 0, 0), (.aload_n 0, 0, 0, 0, 0), (.getfield 16, 11, 4, 0, 0), (.iload_n 1, 0, 0, 0, 0), (.iload_n 2, 0, 0, 0, 0), (.iload_n 3, 0, 0, 0, 0)] (by decide +kernel) rfl rfl ?_
              refine sCvI oI rfl (ci := 0) (q := (1, 0)) (avs := [vr 5 0, vi a1, vi a2, vi a3]) (rest := [vr 12 0]) (tX0_leastTurns 0 a1 a2 a3 μ2) (by decide) (by decide +kernel) lk_11_327 yv_X0_leastTurns rfl (by decide) rfl rfl rfl (Nat.le_of_ble_eq_true rfl) (fun x3 μ4 => ?_)
              refine sCvI oI rfl (ci := 11) (q := (12, 0)) (avs := [vi x3]) (rest := []) (tX11_giveIfAny x3 μ4) (by decide) (by decide +kernel) lk_11_314 yv_X11_giveIfAny rfl (by decide) rfl rfl rfl (Nat.le_of_ble_eq_true rfl) (fun x5 μ6 => ?_)
              exact sRi (by decide +kernel) (fun h => by cases h)
            · refine sWk (lo' := [(0, vr 12 0)]) [0] rfl ?_
              exact X11_enough_J36_ok μ2
    · refine sBk (lo' := [(0, vr 12 0), (1, vi a1), (2, vi a2), (3, vi a3)]) (st' := [vi 2, vr 12 0]) (μ' := μ2) (pc' := 13) [(.aload_n 0, 0, 0, 0, 0), (.iconst 2, 0, 0, 2, 0)] (by decide +kernel) rfl rfl ?_
      refine sCvI oI rfl (ci := 11) (q := (12, 0)) (avs := [vi 2]) (rest := []) (tX11_refuse 2 μ2) (by decide) (by decide +kernel) lk_11_110 yv_X11_refuse rfl (by decide) rfl rfl rfl (Nat.le_of_ble_eq_true rfl) (fun x7 μ8 => ?_)
      exact sRi (by decide +kernel) (fun h => by cases h)
/-! ClockRiver.whyNoGate -/
def X11_whyNoGate (a1 : Int32) (a2 : Int32) (μ : sM) : Option (Int32 × sM) :=
  bI (X4_hasReach 0 a1 μ) fun x1 μ2 =>
    if x1 = 0 then
      some (2, μ2)
    else
      if a2 < 0 then
        some (5, μ2)
      else
        if a2 ≤ 48 then
          some (0, μ2)
        else
          some (5, μ2)
theorem tX11_whyNoGate (a1 : Int32) (a2 : Int32) (μ : sM) : sMt yX11_whyNoGate cX11_whyNoGate 3 (some .int) 2 [vr 12 0, vi a1, vi a2] μ (oI (X11_whyNoGate a1 a2 μ)) := by
  refine sMt_of (own := 11) (bl := false) (by decide +kernel) rfl (Nat.le_of_ble_eq_true rfl) (fun r ρ h => ?_) ?_
  · obtain ⟨q, -, hq⟩ := Option.map_eq_some_iff.mp h
    cases hq
    exact Or.inl rfl
  · unfold X11_whyNoGate
    show sOk 11 cX11_whyNoGate 3 2 false 0 [(0, vr 12 0), (1, vi a1), (2, vi a2)] [] μ _
    refine sBk (lo' := [(0, vr 12 0), (1, vi a1), (2, vi a2)]) (st' := [vi a1, vr 5 0]) (μ' := μ) (pc' := 5) [(.aload_n 0, 0, 0, 0, 0), (.getfield 16, 11, 4, 0, 0), (.iload_n 1, 0, 0, 0, 0)] (by decide +kernel) rfl rfl ?_
    refine sCvI oI rfl (ci := 4) (q := (5, 0)) (avs := [vi a1]) (rest := []) (tX4_hasReach 0 a1 μ) (by decide) (by decide +kernel) lk_11_200 yv_X4_hasReach rfl (by decide) rfl rfl rfl (Nat.le_of_ble_eq_true rfl) (fun x1 μ2 => ?_)
    refine sIf_ne oI (off := 5) (tgt := 13) (by decide +kernel) (by decide) (fun _ => ?_) (fun _ => ?_)
    · refine sBk (lo' := [(0, vr 12 0), (1, vi a1), (2, vi a2)]) (st' := [vi a2]) (μ' := μ2) (pc' := 14) [(.iload_n 2, 0, 0, 0, 0)] (by decide +kernel) rfl rfl ?_
      refine sIf_lt oI (off := 9) (tgt := 23) (by decide +kernel) (by decide) (fun _ => ?_) (fun _ => ?_)
      · refine sBk (lo' := [(0, vr 12 0), (1, vi a1), (2, vi a2)]) (st' := [vi 5]) (μ' := μ2) (pc' := 24) [(.iconst 5, 0, 0, 5, 0)] (by decide +kernel) rfl rfl ?_
        refine sGt (off := 4) (tgt := 28) (by decide +kernel) (by decide) ?_
        exact sRi (by decide +kernel) (fun h => by cases h)
      · refine sBk (lo' := [(0, vr 12 0), (1, vi a1), (2, vi a2)]) (st' := [vi 48, vi a2]) (μ' := μ2) (pc' := 20) [(.iload_n 2, 0, 0, 0, 0), (.bipush 48, 0, 0, 48, 0)] (by decide +kernel) rfl rfl ?_
        refine sIc_le oI (off := 7) (tgt := 27) (by decide +kernel) (by decide) (fun _ => ?_) (fun _ => ?_)
        · refine sBk (lo' := [(0, vr 12 0), (1, vi a1), (2, vi a2)]) (st' := [vi 0]) (μ' := μ2) (pc' := 28) [(.iconst 0, 0, 0, 0, 0)] (by decide +kernel) rfl rfl ?_
          exact sRi (by decide +kernel) (fun h => by cases h)
        · refine sBk (lo' := [(0, vr 12 0), (1, vi a1), (2, vi a2)]) (st' := [vi 5]) (μ' := μ2) (pc' := 24) [(.iconst 5, 0, 0, 5, 0)] (by decide +kernel) rfl rfl ?_
          refine sGt (off := 4) (tgt := 28) (by decide +kernel) (by decide) ?_
          exact sRi (by decide +kernel) (fun h => by cases h)
    · refine sBk (lo' := [(0, vr 12 0), (1, vi a1), (2, vi a2)]) (st' := [vi 2]) (μ' := μ2) (pc' := 12) [(.iconst 2, 0, 0, 2, 0)] (by decide +kernel) rfl rfl ?_
      exact sRi (by decide +kernel) (fun h => by cases h)
/-! ClockRiver.bestGate -/
def X11_bestGate (a1 : Int32) (a2 : Int32) (μ : sM) : Option (Int32 × sM) :=
  bI (X11_whyNoGate a1 a2 μ) fun x1 μ2 =>
    if x1 = 0 then
      bV (X0_findGate 0 a1 a2 μ2) fun μ4 =>
        bI (X11_give (rI μ4 1 0 1) μ4) fun x5 μ6 =>
          some (x5, μ6)
    else
      bI (X11_refuse x1 μ2) fun x7 μ8 =>
        some (x7, μ8)
theorem tX11_bestGate (a1 : Int32) (a2 : Int32) (μ : sM) : sMt yX11_bestGate cX11_bestGate 4 (some .int) 5 [vr 12 0, vi a1, vi a2] μ (oI (X11_bestGate a1 a2 μ)) := by
  refine sMt_of (own := 11) (bl := false) (by decide +kernel) rfl (Nat.le_of_ble_eq_true rfl) (fun r ρ h => ?_) ?_
  · obtain ⟨q, -, hq⟩ := Option.map_eq_some_iff.mp h
    cases hq
    exact Or.inl rfl
  · unfold X11_bestGate
    show sOk 11 cX11_bestGate 4 5 false 0 [(0, vr 12 0), (1, vi a1), (2, vi a2)] [] μ _
    refine sBk (lo' := [(0, vr 12 0), (1, vi a1), (2, vi a2)]) (st' := [vi a2, vi a1, vr 12 0]) (μ' := μ) (pc' := 3) [(.aload_n 0, 0, 0, 0, 0), (.iload_n 1, 0, 0, 0, 0), (.iload_n 2, 0, 0, 0, 0)] (by decide +kernel) rfl rfl ?_
    refine sCvI oI rfl (ci := 11) (q := (12, 0)) (avs := [vi a1, vi a2]) (rest := []) (tX11_whyNoGate a1 a2 μ) (by decide) (by decide +kernel) lk_11_331 yv_X11_whyNoGate rfl (by decide) rfl rfl rfl (Nat.le_of_ble_eq_true rfl) (fun x1 μ2 => ?_)
    refine sBk (lo' := [(3, vi x1), (0, vr 12 0), (1, vi a1), (2, vi a2)]) (st' := [vi x1]) (μ' := μ2) (pc' := 8) [(.istore_n 3, 0, 0, 0, 0), (.iload_n 3, 0, 0, 0, 0)] (by decide +kernel) rfl rfl ?_
    refine sIf_eq oI (off := 9) (tgt := 17) (by decide +kernel) (by decide) (fun _ => ?_) (fun _ => ?_)
    · refine sBk (lo' := [(3, vi x1), (0, vr 12 0), (1, vi a1), (2, vi a2)]) (st' := [vi a2, vi a1, vr 5 0, vr 1 0]) (μ' := μ2) (pc' := 27) [(.aload_n 0, 0, 0, 0, 0), (.getfield 66, 11, 12, 0, 0), (.aload_n 0, 0, 0, 0, 0), (.getfield 16, 11, 4, 0, 0), (.iload_n 1, 0, 0, 0, 0), (.iload_n 2, 0, 0, 0, 0)] (by decide +kernel) rfl rfl ?_
      refine sCvV oI rfl (ci := 0) (q := (1, 0)) (avs := [vr 5 0, vi a1, vi a2]) (rest := []) (tX0_findGate 0 a1 a2 μ2) (by decide) (by decide +kernel) lk_11_334 yv_X0_findGate rfl (by decide) rfl rfl rfl (Nat.le_of_ble_eq_true rfl) (fun μ4 => ?_)
      refine sBk (lo' := [(3, vi x1), (0, vr 12 0), (1, vi a1), (2, vi a2)]) (st' := [vi (rI μ4 1 0 1), vr 12 0]) (μ' := μ4) (pc' := 38) [(.aload_n 0, 0, 0, 0, 0), (.aload_n 0, 0, 0, 0, 0), (.getfield 66, 11, 12, 0, 0), (.getfield 338, 0, 1, 0, 0)] (by decide +kernel) rfl rfl ?_
      refine sCvI oI rfl (ci := 11) (q := (12, 0)) (avs := [vi (rI μ4 1 0 1)]) (rest := []) (tX11_give (rI μ4 1 0 1) μ4) (by decide) (by decide +kernel) lk_11_169 yv_X11_give rfl (by decide) rfl rfl rfl (Nat.le_of_ble_eq_true rfl) (fun x5 μ6 => ?_)
      exact sRi (by decide +kernel) (fun h => by cases h)
    · refine sBk (lo' := [(3, vi x1), (0, vr 12 0), (1, vi a1), (2, vi a2)]) (st' := [vi x1, vr 12 0]) (μ' := μ2) (pc' := 13) [(.aload_n 0, 0, 0, 0, 0), (.iload_n 3, 0, 0, 0, 0)] (by decide +kernel) rfl rfl ?_
      refine sCvI oI rfl (ci := 11) (q := (12, 0)) (avs := [vi x1]) (rest := []) (tX11_refuse x1 μ2) (by decide) (by decide +kernel) lk_11_110 yv_X11_refuse rfl (by decide) rfl rfl rfl (Nat.le_of_ble_eq_true rfl) (fun x7 μ8 => ?_)
      exact sRi (by decide +kernel) (fun h => by cases h)
/-! ClockRiver.bestGround -/
def X11_bestGround (a1 : Int32) (a2 : Int32) (μ : sM) : Option (Int32 × sM) :=
  bI (X11_whyNoGate a1 a2 μ) fun x1 μ2 =>
    if x1 = 0 then
      bV (X0_findGate 0 a1 a2 μ2) fun μ4 =>
        bI (X11_give (rI μ4 1 0 2) μ4) fun x5 μ6 =>
          some (x5, μ6)
    else
      bI (X11_refuse x1 μ2) fun x7 μ8 =>
        some (x7, μ8)
theorem tX11_bestGround (a1 : Int32) (a2 : Int32) (μ : sM) : sMt yX11_bestGround cX11_bestGround 4 (some .int) 5 [vr 12 0, vi a1, vi a2] μ (oI (X11_bestGround a1 a2 μ)) := by
  refine sMt_of (own := 11) (bl := false) (by decide +kernel) rfl (Nat.le_of_ble_eq_true rfl) (fun r ρ h => ?_) ?_
  · obtain ⟨q, -, hq⟩ := Option.map_eq_some_iff.mp h
    cases hq
    exact Or.inl rfl
  · unfold X11_bestGround
    show sOk 11 cX11_bestGround 4 5 false 0 [(0, vr 12 0), (1, vi a1), (2, vi a2)] [] μ _
    refine sBk (lo' := [(0, vr 12 0), (1, vi a1), (2, vi a2)]) (st' := [vi a2, vi a1, vr 12 0]) (μ' := μ) (pc' := 3) [(.aload_n 0, 0, 0, 0, 0), (.iload_n 1, 0, 0, 0, 0), (.iload_n 2, 0, 0, 0, 0)] (by decide +kernel) rfl rfl ?_
    refine sCvI oI rfl (ci := 11) (q := (12, 0)) (avs := [vi a1, vi a2]) (rest := []) (tX11_whyNoGate a1 a2 μ) (by decide) (by decide +kernel) lk_11_331 yv_X11_whyNoGate rfl (by decide) rfl rfl rfl (Nat.le_of_ble_eq_true rfl) (fun x1 μ2 => ?_)
    refine sBk (lo' := [(3, vi x1), (0, vr 12 0), (1, vi a1), (2, vi a2)]) (st' := [vi x1]) (μ' := μ2) (pc' := 8) [(.istore_n 3, 0, 0, 0, 0), (.iload_n 3, 0, 0, 0, 0)] (by decide +kernel) rfl rfl ?_
    refine sIf_eq oI (off := 9) (tgt := 17) (by decide +kernel) (by decide) (fun _ => ?_) (fun _ => ?_)
    · refine sBk (lo' := [(3, vi x1), (0, vr 12 0), (1, vi a1), (2, vi a2)]) (st' := [vi a2, vi a1, vr 5 0, vr 1 0]) (μ' := μ2) (pc' := 27) [(.aload_n 0, 0, 0, 0, 0), (.getfield 66, 11, 12, 0, 0), (.aload_n 0, 0, 0, 0, 0), (.getfield 16, 11, 4, 0, 0), (.iload_n 1, 0, 0, 0, 0), (.iload_n 2, 0, 0, 0, 0)] (by decide +kernel) rfl rfl ?_
      refine sCvV oI rfl (ci := 0) (q := (1, 0)) (avs := [vr 5 0, vi a1, vi a2]) (rest := []) (tX0_findGate 0 a1 a2 μ2) (by decide) (by decide +kernel) lk_11_334 yv_X0_findGate rfl (by decide) rfl rfl rfl (Nat.le_of_ble_eq_true rfl) (fun μ4 => ?_)
      refine sBk (lo' := [(3, vi x1), (0, vr 12 0), (1, vi a1), (2, vi a2)]) (st' := [vi (rI μ4 1 0 2), vr 12 0]) (μ' := μ4) (pc' := 38) [(.aload_n 0, 0, 0, 0, 0), (.aload_n 0, 0, 0, 0, 0), (.getfield 66, 11, 12, 0, 0), (.getfield 341, 0, 2, 0, 0)] (by decide +kernel) rfl rfl ?_
      refine sCvI oI rfl (ci := 11) (q := (12, 0)) (avs := [vi (rI μ4 1 0 2)]) (rest := []) (tX11_give (rI μ4 1 0 2) μ4) (by decide) (by decide +kernel) lk_11_169 yv_X11_give rfl (by decide) rfl rfl rfl (Nat.le_of_ble_eq_true rfl) (fun x5 μ6 => ?_)
      exact sRi (by decide +kernel) (fun h => by cases h)
    · refine sBk (lo' := [(3, vi x1), (0, vr 12 0), (1, vi a1), (2, vi a2)]) (st' := [vi x1, vr 12 0]) (μ' := μ2) (pc' := 13) [(.aload_n 0, 0, 0, 0, 0), (.iload_n 3, 0, 0, 0, 0)] (by decide +kernel) rfl rfl ?_
      refine sCvI oI rfl (ci := 11) (q := (12, 0)) (avs := [vi x1]) (rest := []) (tX11_refuse x1 μ2) (by decide) (by decide +kernel) lk_11_110 yv_X11_refuse rfl (by decide) rfl rfl rfl (Nat.le_of_ble_eq_true rfl) (fun x7 μ8 => ?_)
      exact sRi (by decide +kernel) (fun h => by cases h)
/-! ClockRiver.isNoHire -/
def X11_isNoHire (a0 : Int32) (a1 : Int32) (μ : sM) : Option (Int32 × sM) :=
  if a0 < 1 then
    some (1, μ)
  else
    if 4 < a0 then
      some (1, μ)
    else
      if a1 < 0 then
        some (1, μ)
      else
        if a1 ≤ 999 then
          some (0, μ)
        else
          some (1, μ)
theorem tX11_isNoHire (a0 : Int32) (a1 : Int32) (μ : sM) : sMt yX11_isNoHire cX11_isNoHire 2 (some .boolean) 1 [vi a0, vi a1] μ (oI (X11_isNoHire a0 a1 μ)) := by
  refine sMt_of (own := 11) (bl := true) (by decide +kernel) rfl (Nat.le_of_ble_eq_true rfl) (fun r ρ h => ?_) ?_
  · obtain ⟨q, -, hq⟩ := Option.map_eq_some_iff.mp h
    cases hq
    exact Or.inr ⟨rfl, rfl⟩
  · unfold X11_isNoHire
    show sOk 11 cX11_isNoHire 2 1 true 0 [(0, vi a0), (1, vi a1)] [] μ _
    refine sBk (lo' := [(0, vi a0), (1, vi a1)]) (st' := [vi 1, vi a0]) (μ' := μ) (pc' := 2) [(.iload_n 0, 0, 0, 0, 0), (.iconst 1, 0, 0, 1, 0)] (by decide +kernel) rfl rfl ?_
    refine sIc_lt oI (off := 19) (tgt := 21) (by decide +kernel) (by decide) (fun _ => ?_) (fun _ => ?_)
    · refine sBk (lo' := [(0, vi a0), (1, vi a1)]) (st' := [vi 1]) (μ' := μ) (pc' := 22) [(.iconst 1, 0, 0, 1, 0)] (by decide +kernel) rfl rfl ?_
      refine sGt (off := 4) (tgt := 26) (by decide +kernel) (by decide) ?_
      exact sRi (by decide +kernel) (fun _ => Or.inr rfl)
    · refine sBk (lo' := [(0, vi a0), (1, vi a1)]) (st' := [vi 4, vi a0]) (μ' := μ) (pc' := 7) [(.iload_n 0, 0, 0, 0, 0), (.iconst 4, 0, 0, 4, 0)] (by decide +kernel) rfl rfl ?_
      refine sIc_gt oI (off := 14) (tgt := 21) (by decide +kernel) (by decide) (fun _ => ?_) (fun _ => ?_)
      · refine sBk (lo' := [(0, vi a0), (1, vi a1)]) (st' := [vi 1]) (μ' := μ) (pc' := 22) [(.iconst 1, 0, 0, 1, 0)] (by decide +kernel) rfl rfl ?_
        refine sGt (off := 4) (tgt := 26) (by decide +kernel) (by decide) ?_
        exact sRi (by decide +kernel) (fun _ => Or.inr rfl)
      · refine sBk (lo' := [(0, vi a0), (1, vi a1)]) (st' := [vi a1]) (μ' := μ) (pc' := 11) [(.iload_n 1, 0, 0, 0, 0)] (by decide +kernel) rfl rfl ?_
        refine sIf_lt oI (off := 10) (tgt := 21) (by decide +kernel) (by decide) (fun _ => ?_) (fun _ => ?_)
        · refine sBk (lo' := [(0, vi a0), (1, vi a1)]) (st' := [vi 1]) (μ' := μ) (pc' := 22) [(.iconst 1, 0, 0, 1, 0)] (by decide +kernel) rfl rfl ?_
          refine sGt (off := 4) (tgt := 26) (by decide +kernel) (by decide) ?_
          exact sRi (by decide +kernel) (fun _ => Or.inr rfl)
        · refine sBk (lo' := [(0, vi a0), (1, vi a1)]) (st' := [vi 999, vi a1]) (μ' := μ) (pc' := 18) [(.iload_n 1, 0, 0, 0, 0), (.sipush 999, 0, 0, 999, 0)] (by decide +kernel) rfl rfl ?_
          refine sIc_le oI (off := 7) (tgt := 25) (by decide +kernel) (by decide) (fun _ => ?_) (fun _ => ?_)
          · refine sBk (lo' := [(0, vi a0), (1, vi a1)]) (st' := [vi 0]) (μ' := μ) (pc' := 26) [(.iconst 0, 0, 0, 0, 0)] (by decide +kernel) rfl rfl ?_
            exact sRi (by decide +kernel) (fun _ => Or.inl rfl)
          · refine sBk (lo' := [(0, vi a0), (1, vi a1)]) (st' := [vi 1]) (μ' := μ) (pc' := 22) [(.iconst 1, 0, 0, 1, 0)] (by decide +kernel) rfl rfl ?_
            refine sGt (off := 4) (tgt := 26) (by decide +kernel) (by decide) ?_
            exact sRi (by decide +kernel) (fun _ => Or.inr rfl)
/-! ClockRiver.hire -/
def X11_hire (a1 : Int32) (a2 : Int32) (μ : sM) : Option (Int32 × sM) :=
  bI (X11_isNoHire a1 a2 μ) fun x1 μ2 =>
    if x1 = 0 then
      bI (X0_hireFor 0 a1 a2 μ2) fun x3 μ4 =>
        bI (X11_giveIfAny x3 μ4) fun x5 μ6 =>
          some (x5, μ6)
    else
      bI (X11_refuse 5 μ2) fun x7 μ8 =>
        some (x7, μ8)
theorem tX11_hire (a1 : Int32) (a2 : Int32) (μ : sM) : sMt yX11_hire cX11_hire 3 (some .int) 11 [vr 12 0, vi a1, vi a2] μ (oI (X11_hire a1 a2 μ)) := by
  refine sMt_of (own := 11) (bl := false) (by decide +kernel) rfl (Nat.le_of_ble_eq_true rfl) (fun r ρ h => ?_) ?_
  · obtain ⟨q, -, hq⟩ := Option.map_eq_some_iff.mp h
    cases hq
    exact Or.inl rfl
  · unfold X11_hire
    show sOk 11 cX11_hire 3 11 false 0 [(0, vr 12 0), (1, vi a1), (2, vi a2)] [] μ _
    refine sBk (lo' := [(0, vr 12 0), (1, vi a1), (2, vi a2)]) (st' := [vi a2, vi a1]) (μ' := μ) (pc' := 2) [(.iload_n 1, 0, 0, 0, 0), (.iload_n 2, 0, 0, 0, 0)] (by decide +kernel) rfl rfl ?_
    refine sCsI oI rfl (avs := [vi a1, vi a2]) (rest := []) (tX11_isNoHire a1 a2 μ) (by decide) (by decide +kernel) lk_11_344 ys_X11_isNoHire rfl rfl (Nat.le_of_ble_eq_true rfl) (fun x1 μ2 => ?_)
    refine sIf_eq oI (off := 9) (tgt := 14) (by decide +kernel) (by decide) (fun _ => ?_) (fun _ => ?_)
    · refine sBk (lo' := [(0, vr 12 0), (1, vi a1), (2, vi a2)]) (st' := [vi a2, vi a1, vr 5 0, vr 1 0, vr 12 0]) (μ' := μ2) (pc' := 25) [(.aload_n 0, 0, 0, 0, 0), (.aload_n 0, 0, 0, 0, 0), (.getfield 66, 11, 12, 0, 0), (.aload_n 0, 0, 0, 0, 0), (.getfield 16, 11, 4, 0, 0), (.iload_n 1, 0, 0, 0, 0), (.iload_n 2, 0, 0, 0, 0)] (by decide +kernel) rfl rfl ?_
      refine sCvI oI rfl (ci := 0) (q := (1, 0)) (avs := [vr 5 0, vi a1, vi a2]) (rest := [vr 12 0]) (tX0_hireFor 0 a1 a2 μ2) (by decide) (by decide +kernel) lk_11_348 yv_X0_hireFor rfl (by decide) rfl rfl rfl (Nat.le_of_ble_eq_true rfl) (fun x3 μ4 => ?_)
      refine sCvI oI rfl (ci := 11) (q := (12, 0)) (avs := [vi x3]) (rest := []) (tX11_giveIfAny x3 μ4) (by decide) (by decide +kernel) lk_11_314 yv_X11_giveIfAny rfl (by decide) rfl rfl rfl (Nat.le_of_ble_eq_true rfl) (fun x5 μ6 => ?_)
      exact sRi (by decide +kernel) (fun h => by cases h)
    · refine sBk (lo' := [(0, vr 12 0), (1, vi a1), (2, vi a2)]) (st' := [vi 5, vr 12 0]) (μ' := μ2) (pc' := 10) [(.aload_n 0, 0, 0, 0, 0), (.iconst 5, 0, 0, 5, 0)] (by decide +kernel) rfl rfl ?_
      refine sCvI oI rfl (ci := 11) (q := (12, 0)) (avs := [vi 5]) (rest := []) (tX11_refuse 5 μ2) (by decide) (by decide +kernel) lk_11_110 yv_X11_refuse rfl (by decide) rfl rfl rfl (Nat.le_of_ble_eq_true rfl) (fun x7 μ8 => ?_)
      exact sRi (by decide +kernel) (fun h => by cases h)
/-! ClockRiver.hireAt -/
def X11_hireAt_J17 (μ : sM) : Option (Int32 × sM) :=
  bI (X11_refuse 5 μ) fun x1 μ2 =>
    some (x1, μ2)
theorem X11_hireAt_J17_ok (μ : sM) : sOk 11 cX11_hireAt 4 11 false 17 [(0, vr 12 0)] [] μ (oI (X11_hireAt_J17 μ)) := by
  unfold X11_hireAt_J17
  refine sBk (lo' := [(0, vr 12 0)]) (st' := [vi 5, vr 12 0]) (μ' := μ) (pc' := 19) [(.aload_n 0, 0, 0, 0, 0), (.iconst 5, 0, 0, 5, 0)] (by decide +kernel) rfl rfl ?_
  refine sCvI oI rfl (ci := 11) (q := (12, 0)) (avs := [vi 5]) (rest := []) (tX11_refuse 5 μ) (by decide) (by decide +kernel) lk_11_110 yv_X11_refuse rfl (by decide) rfl rfl rfl (Nat.le_of_ble_eq_true rfl) (fun x1 μ2 => ?_)
  exact sRi (by decide +kernel) (fun h => by cases h)
def X11_hireAt (a1 : Int32) (a2 : Int32) (a3 : Int32) (μ : sM) : Option (Int32 × sM) :=
  bI (X11_isNoHire a1 a2 μ) fun x1 μ2 =>
    if x1 = 0 then
      if a3 < 0 then
        X11_hireAt_J17 μ2
      else
        if a3 < a1 then
          bI (X0_hireFor 0 a1 a2 μ2) fun x3 μ4 =>
            if x3 = (-1) then
              bI (X11_refuse 8 μ4) fun x7 μ8 =>
                some (x7, μ8)
            else
              if inb a3 4 = true then
                bI (X11_give (rI μ4 21 0 (ix a3)) μ4) fun x5 μ6 =>
                  some (x5, μ6)
              else none
        else
          X11_hireAt_J17 μ2
    else
      X11_hireAt_J17 μ2
theorem tX11_hireAt (a1 : Int32) (a2 : Int32) (a3 : Int32) (μ : sM) : sMt yX11_hireAt cX11_hireAt 4 (some .int) 11 [vr 12 0, vi a1, vi a2, vi a3] μ (oI (X11_hireAt a1 a2 a3 μ)) := by
  refine sMt_of (own := 11) (bl := false) (by decide +kernel) rfl (Nat.le_of_ble_eq_true rfl) (fun r ρ h => ?_) ?_
  · obtain ⟨q, -, hq⟩ := Option.map_eq_some_iff.mp h
    cases hq
    exact Or.inl rfl
  · unfold X11_hireAt
    show sOk 11 cX11_hireAt 4 11 false 0 [(0, vr 12 0), (1, vi a1), (2, vi a2), (3, vi a3)] [] μ _
    refine sBk (lo' := [(0, vr 12 0), (1, vi a1), (2, vi a2), (3, vi a3)]) (st' := [vi a2, vi a1]) (μ' := μ) (pc' := 2) [(.iload_n 1, 0, 0, 0, 0), (.iload_n 2, 0, 0, 0, 0)] (by decide +kernel) rfl rfl ?_
    refine sCsI oI rfl (avs := [vi a1, vi a2]) (rest := []) (tX11_isNoHire a1 a2 μ) (by decide) (by decide +kernel) lk_11_344 ys_X11_isNoHire rfl rfl (Nat.le_of_ble_eq_true rfl) (fun x1 μ2 => ?_)
    refine sIf_ne oI (off := 12) (tgt := 17) (by decide +kernel) (by decide) (fun _ => ?_) (fun _ => ?_)
    · refine sWk (lo' := [(0, vr 12 0)]) [0] rfl ?_
      exact X11_hireAt_J17_ok μ2
    · refine sBk (lo' := [(0, vr 12 0), (1, vi a1), (2, vi a2), (3, vi a3)]) (st' := [vi a3]) (μ' := μ2) (pc' := 9) [(.iload_n 3, 0, 0, 0, 0)] (by decide +kernel) rfl rfl ?_
      refine sIf_lt oI (off := 8) (tgt := 17) (by decide +kernel) (by decide) (fun _ => ?_) (fun _ => ?_)
      · refine sWk (lo' := [(0, vr 12 0)]) [0] rfl ?_
        exact X11_hireAt_J17_ok μ2
      · refine sBk (lo' := [(0, vr 12 0), (1, vi a1), (2, vi a2), (3, vi a3)]) (st' := [vi a1, vi a3]) (μ' := μ2) (pc' := 14) [(.iload_n 3, 0, 0, 0, 0), (.iload_n 1, 0, 0, 0, 0)] (by decide +kernel) rfl rfl ?_
        refine sIc_lt oI (off := 9) (tgt := 23) (by decide +kernel) (by decide) (fun _ => ?_) (fun _ => ?_)
        · refine sBk (lo' := [(0, vr 12 0), (1, vi a1), (2, vi a2), (3, vi a3)]) (st' := [vi a2, vi a1, vr 5 0, vr 1 0]) (μ' := μ2) (pc' := 33) [(.aload_n 0, 0, 0, 0, 0), (.getfield 66, 11, 12, 0, 0), (.aload_n 0, 0, 0, 0, 0), (.getfield 16, 11, 4, 0, 0), (.iload_n 1, 0, 0, 0, 0), (.iload_n 2, 0, 0, 0, 0)] (by decide +kernel) rfl rfl ?_
          refine sCvI oI rfl (ci := 0) (q := (1, 0)) (avs := [vr 5 0, vi a1, vi a2]) (rest := []) (tX0_hireFor 0 a1 a2 μ2) (by decide) (by decide +kernel) lk_11_348 yv_X0_hireFor rfl (by decide) rfl rfl rfl (Nat.le_of_ble_eq_true rfl) (fun x3 μ4 => ?_)
          refine sBk (lo' := [(0, vr 12 0), (1, vi a1), (2, vi a2), (3, vi a3)]) (st' := [vi (-1), vi x3]) (μ' := μ4) (pc' := 37) [(.iconst (-1), 0, 0, (-1), 0)] (by decide +kernel) rfl rfl ?_
          refine sIc_ne oI (off := 10) (tgt := 47) (by decide +kernel) (by decide) (fun _ => ?_) (fun _ => ?_)
          · refine sBk (lo' := [(0, vr 12 0), (1, vi a1), (2, vi a2), (3, vi a3)]) (st' := [vi a3, vr 21 0, vr 12 0]) (μ' := μ4) (pc' := 56) [(.aload_n 0, 0, 0, 0, 0), (.aload_n 0, 0, 0, 0, 0), (.getfield 66, 11, 12, 0, 0), (.getfield 352, 0, 4, 0, 0), (.iload_n 3, 0, 0, 0, 0)] (by decide +kernel) rfl rfl ?_
            refine sS_ial oI rfl (n := 4) (j := (ix a3)) (by decide +kernel) rfl rfl rfl (fun _ => ?_)
            refine sCvI oI rfl (ci := 11) (q := (12, 0)) (avs := [vi (rI μ4 21 0 (ix a3))]) (rest := []) (tX11_give (rI μ4 21 0 (ix a3)) μ4) (by decide) (by decide +kernel) lk_11_169 yv_X11_give rfl (by decide) rfl rfl rfl (Nat.le_of_ble_eq_true rfl) (fun x5 μ6 => ?_)
            exact sRi (by decide +kernel) (fun h => by cases h)
          · refine sBk (lo' := [(0, vr 12 0), (1, vi a1), (2, vi a2), (3, vi a3)]) (st' := [vi 8, vr 12 0]) (μ' := μ4) (pc' := 43) [(.aload_n 0, 0, 0, 0, 0), (.bipush 8, 0, 0, 8, 0)] (by decide +kernel) rfl rfl ?_
            refine sCvI oI rfl (ci := 11) (q := (12, 0)) (avs := [vi 8]) (rest := []) (tX11_refuse 8 μ4) (by decide) (by decide +kernel) lk_11_110 yv_X11_refuse rfl (by decide) rfl rfl rfl (Nat.le_of_ble_eq_true rfl) (fun x7 μ8 => ?_)
            exact sRi (by decide +kernel) (fun h => by cases h)
        · refine sWk (lo' := [(0, vr 12 0)]) [0] rfl ?_
          exact X11_hireAt_J17_ok μ2
/-! ClockRiver.isNoSpring -/
def X11_isNoSpring (a0 : Int32) (μ : sM) : Option (Int32 × sM) :=
  if a0 < 0 then
    some (1, μ)
  else
    if a0 ≤ 60 then
      some (0, μ)
    else
      some (1, μ)
theorem tX11_isNoSpring (a0 : Int32) (μ : sM) : sMt yX11_isNoSpring cX11_isNoSpring 1 (some .boolean) 1 [vi a0] μ (oI (X11_isNoSpring a0 μ)) := by
  refine sMt_of (own := 11) (bl := true) (by decide +kernel) rfl (Nat.le_of_ble_eq_true rfl) (fun r ρ h => ?_) ?_
  · obtain ⟨q, -, hq⟩ := Option.map_eq_some_iff.mp h
    cases hq
    exact Or.inr ⟨rfl, rfl⟩
  · unfold X11_isNoSpring
    show sOk 11 cX11_isNoSpring 1 1 true 0 [(0, vi a0)] [] μ _
    refine sBk (lo' := [(0, vi a0)]) (st' := [vi a0]) (μ' := μ) (pc' := 1) [(.iload_n 0, 0, 0, 0, 0)] (by decide +kernel) rfl rfl ?_
    refine sIf_lt oI (off := 9) (tgt := 10) (by decide +kernel) (by decide) (fun _ => ?_) (fun _ => ?_)
    · refine sBk (lo' := [(0, vi a0)]) (st' := [vi 1]) (μ' := μ) (pc' := 11) [(.iconst 1, 0, 0, 1, 0)] (by decide +kernel) rfl rfl ?_
      refine sGt (off := 4) (tgt := 15) (by decide +kernel) (by decide) ?_
      exact sRi (by decide +kernel) (fun _ => Or.inr rfl)
    · refine sBk (lo' := [(0, vi a0)]) (st' := [vi 60, vi a0]) (μ' := μ) (pc' := 7) [(.iload_n 0, 0, 0, 0, 0), (.bipush 60, 0, 0, 60, 0)] (by decide +kernel) rfl rfl ?_
      refine sIc_le oI (off := 7) (tgt := 14) (by decide +kernel) (by decide) (fun _ => ?_) (fun _ => ?_)
      · refine sBk (lo' := [(0, vi a0)]) (st' := [vi 0]) (μ' := μ) (pc' := 15) [(.iconst 0, 0, 0, 0, 0)] (by decide +kernel) rfl rfl ?_
        exact sRi (by decide +kernel) (fun _ => Or.inl rfl)
      · refine sBk (lo' := [(0, vi a0)]) (st' := [vi 1]) (μ' := μ) (pc' := 11) [(.iconst 1, 0, 0, 1, 0)] (by decide +kernel) rfl rfl ?_
        refine sGt (off := 4) (tgt := 15) (by decide +kernel) (by decide) ?_
        exact sRi (by decide +kernel) (fun _ => Or.inr rfl)
/-! ClockRiver.wound -/
def X11_wound_J14 (μ : sM) : Option (Int32 × sM) :=
  bI (X11_refuse 5 μ) fun x1 μ2 =>
    some (x1, μ2)
theorem X11_wound_J14_ok (μ : sM) : sOk 11 cX11_wound 5 2 false 14 [(0, vr 12 0)] [] μ (oI (X11_wound_J14 μ)) := by
  unfold X11_wound_J14
  refine sBk (lo' := [(0, vr 12 0)]) (st' := [vi 5, vr 12 0]) (μ' := μ) (pc' := 16) [(.aload_n 0, 0, 0, 0, 0), (.iconst 5, 0, 0, 5, 0)] (by decide +kernel) rfl rfl ?_
  refine sCvI oI rfl (ci := 11) (q := (12, 0)) (avs := [vi 5]) (rest := []) (tX11_refuse 5 μ) (by decide) (by decide +kernel) lk_11_110 yv_X11_refuse rfl (by decide) rfl rfl rfl (Nat.le_of_ble_eq_true rfl) (fun x1 μ2 => ?_)
  exact sRi (by decide +kernel) (fun h => by cases h)
def X11_wound_J60 (k25 : Int32 → Int32 → Int32 → Int32 → sM → Option (Int32 × sM)) (v1 : Int32) (v2 : Int32) (v3 : Int32) (v4 : Int32) (μ : sM) : Option (Int32 × sM) :=
  k25 v1 v2 v3 (v4 + 1) μ
theorem X11_wound_J60_ok {k25 : Int32 → Int32 → Int32 → Int32 → sM → Option (Int32 × sM)} (hk25 : ∀ (v1 : Int32) (v2 : Int32) (v3 : Int32) (v4 : Int32) (μ : sM), sOk 11 cX11_wound 5 2 false 25 [(0, vr 12 0), (1, vi v1), (2, vi v2), (3, vi v3), (4, vi v4)] [] μ (oI (k25 v1 v2 v3 v4 μ))) (v1 : Int32) (v2 : Int32) (v3 : Int32) (v4 : Int32) (μ : sM) : sOk 11 cX11_wound 5 2 false 60 [(0, vr 12 0), (1, vi v1), (2, vi v2), (3, vi v3), (4, vi v4)] [] μ (oI (X11_wound_J60 k25 v1 v2 v3 v4 μ)) := by
  unfold X11_wound_J60
  refine sBk (lo' := [(4, vi (v4 + 1)), (0, vr 12 0), (1, vi v1), (2, vi v2), (3, vi v3)]) (st' := []) (μ' := μ) (pc' := 63) [(.iinc 4 1, 0, 0, 1, 0)] (by decide +kernel) rfl rfl ?_
  refine sGt (off := (-38)) (tgt := 25) (by decide +kernel) (by decide) ?_
  refine sWk (lo' := [(0, vr 12 0), (1, vi v1), (2, vi v2), (3, vi v3), (4, vi (v4 + 1))]) [1, 2, 3, 4, 0] rfl ?_
  exact hk25 v1 v2 v3 (v4 + 1) μ
def X11_wound_L25 : Nat → Int32 → Int32 → Int32 → Int32 → sM → Option (Int32 × sM)
  | 0, _, _, _, _, _ => none
  | n + 1, v1, v2, v3, v4, μ =>
    bI (X10_sets 0 μ) fun x1 μ2 =>
      if x1 ≤ v4 then
        bI (X11_give v3 μ2) fun x3 μ4 =>
          some (x3, μ4)
      else
        bI (X10_canWind 0 v4 v1 v2 μ2) fun x5 μ6 =>
          if x5 = 0 then
            X11_wound_J60 (X11_wound_L25 n) v1 v2 v3 v4 μ6
          else
            X11_wound_J60 (X11_wound_L25 n) v1 v2 (v3 + 1) v4 μ6
theorem X11_wound_L25_ok : ∀ (n : Nat) (v1 : Int32) (v2 : Int32) (v3 : Int32) (v4 : Int32) (μ : sM), sOk 11 cX11_wound 5 2 false 25 [(0, vr 12 0), (1, vi v1), (2, vi v2), (3, vi v3), (4, vi v4)] [] μ (oI (X11_wound_L25 n v1 v2 v3 v4 μ)) := by
  intro n
  induction n with
  | zero =>
    intros
    exact sNo
  | succ n ih =>
    intro v1 v2 v3 v4 μ
    unfold X11_wound_L25
    refine sBk (lo' := [(0, vr 12 0), (1, vi v1), (2, vi v2), (3, vi v3), (4, vi v4)]) (st' := [vr 11 0, vi v4]) (μ' := μ) (pc' := 34) [(.iload 4, 0, 0, 0, 0), (.aload_n 0, 0, 0, 0, 0), (.getfield 16, 11, 4, 0, 0), (.getfield 241, 4, 10, 0, 0)] (by decide +kernel) rfl rfl ?_
    refine sCvI oI rfl (ci := 10) (q := (11, 0)) (avs := []) (rest := [vi v4]) (tX10_sets 0 μ) (by decide) (by decide +kernel) lk_11_358 yv_X10_sets rfl (by decide) rfl rfl rfl (Nat.le_of_ble_eq_true rfl) (fun x1 μ2 => ?_)
    refine sIc_ge oI (off := 29) (tgt := 66) (by decide +kernel) (by decide) (fun _ => ?_) (fun _ => ?_)
    · refine sBk (lo' := [(0, vr 12 0), (1, vi v1), (2, vi v2), (3, vi v3), (4, vi v4)]) (st' := [vi v3, vr 12 0]) (μ' := μ2) (pc' := 68) [(.aload_n 0, 0, 0, 0, 0), (.iload_n 3, 0, 0, 0, 0)] (by decide +kernel) rfl rfl ?_
      refine sCvI oI rfl (ci := 11) (q := (12, 0)) (avs := [vi v3]) (rest := []) (tX11_give v3 μ2) (by decide) (by decide +kernel) lk_11_169 yv_X11_give rfl (by decide) rfl rfl rfl (Nat.le_of_ble_eq_true rfl) (fun x3 μ4 => ?_)
      exact sRi (by decide +kernel) (fun h => by cases h)
    · refine sBk (lo' := [(0, vr 12 0), (1, vi v1), (2, vi v2), (3, vi v3), (4, vi v4)]) (st' := [vi v2, vi v1, vi v4, vr 11 0]) (μ' := μ2) (pc' := 51) [(.aload_n 0, 0, 0, 0, 0), (.getfield 16, 11, 4, 0, 0), (.getfield 241, 4, 10, 0, 0), (.iload 4, 0, 0, 0, 0), (.iload_n 1, 0, 0, 0, 0), (.iload_n 2, 0, 0, 0, 0)] (by decide +kernel) rfl rfl ?_
      refine sCvI oI rfl (ci := 10) (q := (11, 0)) (avs := [vi v4, vi v1, vi v2]) (rest := []) (tX10_canWind 0 v4 v1 v2 μ2) (by decide) (by decide +kernel) lk_11_361 yv_X10_canWind rfl (by decide) rfl rfl rfl (Nat.le_of_ble_eq_true rfl) (fun x5 μ6 => ?_)
      refine sIf_eq oI (off := 6) (tgt := 60) (by decide +kernel) (by decide) (fun _ => ?_) (fun _ => ?_)
      · exact X11_wound_J60_ok ih v1 v2 v3 v4 μ6
      · refine sBk (lo' := [(3, vi (v3 + 1)), (0, vr 12 0), (1, vi v1), (2, vi v2), (4, vi v4)]) (st' := []) (μ' := μ6) (pc' := 60) [(.iinc 3 1, 0, 0, 1, 0)] (by decide +kernel) rfl rfl ?_
        refine sWk (lo' := [(0, vr 12 0), (1, vi v1), (2, vi v2), (3, vi (v3 + 1)), (4, vi v4)]) [1, 2, 3, 0, 4] rfl ?_
        exact X11_wound_J60_ok ih v1 v2 (v3 + 1) v4 μ6
def X11_wound (a1 : Int32) (a2 : Int32) (μ : sM) : Option (Int32 × sM) :=
  bI (X11_isNoSpring a1 μ) fun x1 μ2 =>
    if x1 = 0 then
      bI (X11_isNoSpring a2 μ2) fun x3 μ4 =>
        if x3 = 0 then
          X11_wound_L25 fuN a1 a2 0 0 μ4
        else
          X11_wound_J14 μ4
    else
      X11_wound_J14 μ2
theorem tX11_wound (a1 : Int32) (a2 : Int32) (μ : sM) : sMt yX11_wound cX11_wound 5 (some .int) 2 [vr 12 0, vi a1, vi a2] μ (oI (X11_wound a1 a2 μ)) := by
  refine sMt_of (own := 11) (bl := false) (by decide +kernel) rfl (Nat.le_of_ble_eq_true rfl) (fun r ρ h => ?_) ?_
  · obtain ⟨q, -, hq⟩ := Option.map_eq_some_iff.mp h
    cases hq
    exact Or.inl rfl
  · unfold X11_wound
    show sOk 11 cX11_wound 5 2 false 0 [(0, vr 12 0), (1, vi a1), (2, vi a2)] [] μ _
    refine sBk (lo' := [(0, vr 12 0), (1, vi a1), (2, vi a2)]) (st' := [vi a1]) (μ' := μ) (pc' := 1) [(.iload_n 1, 0, 0, 0, 0)] (by decide +kernel) rfl rfl ?_
    refine sCsI oI rfl (avs := [vi a1]) (rest := []) (tX11_isNoSpring a1 μ) (by decide) (by decide +kernel) lk_11_355 ys_X11_isNoSpring rfl rfl (Nat.le_of_ble_eq_true rfl) (fun x1 μ2 => ?_)
    refine sIf_ne oI (off := 10) (tgt := 14) (by decide +kernel) (by decide) (fun _ => ?_) (fun _ => ?_)
    · refine sWk (lo' := [(0, vr 12 0)]) [0] rfl ?_
      exact X11_wound_J14_ok μ2
    · refine sBk (lo' := [(0, vr 12 0), (1, vi a1), (2, vi a2)]) (st' := [vi a2]) (μ' := μ2) (pc' := 8) [(.iload_n 2, 0, 0, 0, 0)] (by decide +kernel) rfl rfl ?_
      refine sCsI oI rfl (avs := [vi a2]) (rest := []) (tX11_isNoSpring a2 μ2) (by decide) (by decide +kernel) lk_11_355 ys_X11_isNoSpring rfl rfl (Nat.le_of_ble_eq_true rfl) (fun x3 μ4 => ?_)
      refine sIf_eq oI (off := 9) (tgt := 20) (by decide +kernel) (by decide) (fun _ => ?_) (fun _ => ?_)
      · refine sBk (lo' := [(4, vi 0), (3, vi 0), (0, vr 12 0), (1, vi a1), (2, vi a2)]) (st' := []) (μ' := μ4) (pc' := 25) [(.iconst 0, 0, 0, 0, 0), (.istore_n 3, 0, 0, 0, 0), (.iconst 0, 0, 0, 0, 0), (.istore 4, 0, 0, 0, 0)] (by decide +kernel) rfl rfl ?_
        refine sWk (lo' := [(0, vr 12 0), (1, vi a1), (2, vi a2), (3, vi 0), (4, vi 0)]) [2, 3, 4, 1, 0] rfl ?_
        exact X11_wound_L25_ok fuN a1 a2 0 0 μ4
      · refine sWk (lo' := [(0, vr 12 0)]) [0] rfl ?_
        exact X11_wound_J14_ok μ4
/-! ClockRiver.sure -/
def X11_sure_J14 (μ : sM) : Option (Int32 × sM) :=
  bI (X11_refuse 5 μ) fun x1 μ2 =>
    some (x1, μ2)
theorem X11_sure_J14_ok (μ : sM) : sOk 11 cX11_sure 5 3 false 14 [(0, vr 12 0)] [] μ (oI (X11_sure_J14 μ)) := by
  unfold X11_sure_J14
  refine sBk (lo' := [(0, vr 12 0)]) (st' := [vi 5, vr 12 0]) (μ' := μ) (pc' := 16) [(.aload_n 0, 0, 0, 0, 0), (.iconst 5, 0, 0, 5, 0)] (by decide +kernel) rfl rfl ?_
  refine sCvI oI rfl (ci := 11) (q := (12, 0)) (avs := [vi 5]) (rest := []) (tX11_refuse 5 μ) (by decide) (by decide +kernel) lk_11_110 yv_X11_refuse rfl (by decide) rfl rfl rfl (Nat.le_of_ble_eq_true rfl) (fun x1 μ2 => ?_)
  exact sRi (by decide +kernel) (fun h => by cases h)
def X11_sure_J72 (k25 : Int32 → Int32 → Int32 → Int32 → sM → Option (Int32 × sM)) (v1 : Int32) (v2 : Int32) (v3 : Int32) (v4 : Int32) (μ : sM) : Option (Int32 × sM) :=
  k25 v1 v2 v3 (v4 + 1) μ
theorem X11_sure_J72_ok {k25 : Int32 → Int32 → Int32 → Int32 → sM → Option (Int32 × sM)} (hk25 : ∀ (v1 : Int32) (v2 : Int32) (v3 : Int32) (v4 : Int32) (μ : sM), sOk 11 cX11_sure 5 3 false 25 [(0, vr 12 0), (1, vi v1), (2, vi v2), (3, vi v3), (4, vi v4)] [] μ (oI (k25 v1 v2 v3 v4 μ))) (v1 : Int32) (v2 : Int32) (v3 : Int32) (v4 : Int32) (μ : sM) : sOk 11 cX11_sure 5 3 false 72 [(0, vr 12 0), (1, vi v1), (2, vi v2), (3, vi v3), (4, vi v4)] [] μ (oI (X11_sure_J72 k25 v1 v2 v3 v4 μ)) := by
  unfold X11_sure_J72
  refine sBk (lo' := [(4, vi (v4 + 1)), (0, vr 12 0), (1, vi v1), (2, vi v2), (3, vi v3)]) (st' := []) (μ' := μ) (pc' := 75) [(.iinc 4 1, 0, 0, 1, 0)] (by decide +kernel) rfl rfl ?_
  refine sGt (off := (-50)) (tgt := 25) (by decide +kernel) (by decide) ?_
  refine sWk (lo' := [(0, vr 12 0), (1, vi v1), (2, vi v2), (3, vi v3), (4, vi (v4 + 1))]) [1, 2, 3, 4, 0] rfl ?_
  exact hk25 v1 v2 v3 (v4 + 1) μ
def X11_sure_J71 (k25 : Int32 → Int32 → Int32 → Int32 → sM → Option (Int32 × sM)) (v1 : Int32) (v2 : Int32) (v4 : Int32) (s0 : Int32) (μ : sM) : Option (Int32 × sM) :=
  X11_sure_J72 k25 v1 v2 s0 v4 μ
theorem X11_sure_J71_ok {k25 : Int32 → Int32 → Int32 → Int32 → sM → Option (Int32 × sM)} (hk25 : ∀ (v1 : Int32) (v2 : Int32) (v3 : Int32) (v4 : Int32) (μ : sM), sOk 11 cX11_sure 5 3 false 25 [(0, vr 12 0), (1, vi v1), (2, vi v2), (3, vi v3), (4, vi v4)] [] μ (oI (k25 v1 v2 v3 v4 μ))) (v1 : Int32) (v2 : Int32) (v4 : Int32) (s0 : Int32) (μ : sM) : sOk 11 cX11_sure 5 3 false 71 [(0, vr 12 0), (1, vi v1), (2, vi v2), (4, vi v4)] [vi s0] μ (oI (X11_sure_J71 k25 v1 v2 v4 s0 μ)) := by
  unfold X11_sure_J71
  refine sBk (lo' := [(3, vi s0), (0, vr 12 0), (1, vi v1), (2, vi v2), (4, vi v4)]) (st' := []) (μ' := μ) (pc' := 72) [(.istore_n 3, 0, 0, 0, 0)] (by decide +kernel) rfl rfl ?_
  refine sWk (lo' := [(0, vr 12 0), (1, vi v1), (2, vi v2), (3, vi s0), (4, vi v4)]) [1, 2, 3, 0, 4] rfl ?_
  exact X11_sure_J72_ok hk25 v1 v2 s0 v4 μ
def X11_sure_L25 : Nat → Int32 → Int32 → Int32 → Int32 → sM → Option (Int32 × sM)
  | 0, _, _, _, _, _ => none
  | n + 1, v1, v2, v3, v4, μ =>
    bI (X10_sets 0 μ) fun x1 μ2 =>
      if x1 ≤ v4 then
        bI (X11_giveIfAny v3 μ2) fun x3 μ4 =>
          some (x3, μ4)
      else
        bI (X10_canWind 0 v4 v1 v2 μ2) fun x5 μ6 =>
          if x5 = 0 then
            X11_sure_J72 (X11_sure_L25 n) v1 v2 v3 v4 μ6
          else
            if v3 = (-1) then
              X11_sure_J71 (X11_sure_L25 n) v1 v2 v4 v4 μ6
            else
              X11_sure_J71 (X11_sure_L25 n) v1 v2 v4 (v3 &&& v4) μ6
theorem X11_sure_L25_ok : ∀ (n : Nat) (v1 : Int32) (v2 : Int32) (v3 : Int32) (v4 : Int32) (μ : sM), sOk 11 cX11_sure 5 3 false 25 [(0, vr 12 0), (1, vi v1), (2, vi v2), (3, vi v3), (4, vi v4)] [] μ (oI (X11_sure_L25 n v1 v2 v3 v4 μ)) := by
  intro n
  induction n with
  | zero =>
    intros
    exact sNo
  | succ n ih =>
    intro v1 v2 v3 v4 μ
    unfold X11_sure_L25
    refine sBk (lo' := [(0, vr 12 0), (1, vi v1), (2, vi v2), (3, vi v3), (4, vi v4)]) (st' := [vr 11 0, vi v4]) (μ' := μ) (pc' := 34) [(.iload 4, 0, 0, 0, 0), (.aload_n 0, 0, 0, 0, 0), (.getfield 16, 11, 4, 0, 0), (.getfield 241, 4, 10, 0, 0)] (by decide +kernel) rfl rfl ?_
    refine sCvI oI rfl (ci := 10) (q := (11, 0)) (avs := []) (rest := [vi v4]) (tX10_sets 0 μ) (by decide) (by decide +kernel) lk_11_358 yv_X10_sets rfl (by decide) rfl rfl rfl (Nat.le_of_ble_eq_true rfl) (fun x1 μ2 => ?_)
    refine sIc_ge oI (off := 41) (tgt := 78) (by decide +kernel) (by decide) (fun _ => ?_) (fun _ => ?_)
    · refine sBk (lo' := [(0, vr 12 0), (1, vi v1), (2, vi v2), (3, vi v3), (4, vi v4)]) (st' := [vi v3, vr 12 0]) (μ' := μ2) (pc' := 80) [(.aload_n 0, 0, 0, 0, 0), (.iload_n 3, 0, 0, 0, 0)] (by decide +kernel) rfl rfl ?_
      refine sCvI oI rfl (ci := 11) (q := (12, 0)) (avs := [vi v3]) (rest := []) (tX11_giveIfAny v3 μ2) (by decide) (by decide +kernel) lk_11_314 yv_X11_giveIfAny rfl (by decide) rfl rfl rfl (Nat.le_of_ble_eq_true rfl) (fun x3 μ4 => ?_)
      exact sRi (by decide +kernel) (fun h => by cases h)
    · refine sBk (lo' := [(0, vr 12 0), (1, vi v1), (2, vi v2), (3, vi v3), (4, vi v4)]) (st' := [vi v2, vi v1, vi v4, vr 11 0]) (μ' := μ2) (pc' := 51) [(.aload_n 0, 0, 0, 0, 0), (.getfield 16, 11, 4, 0, 0), (.getfield 241, 4, 10, 0, 0), (.iload 4, 0, 0, 0, 0), (.iload_n 1, 0, 0, 0, 0), (.iload_n 2, 0, 0, 0, 0)] (by decide +kernel) rfl rfl ?_
      refine sCvI oI rfl (ci := 10) (q := (11, 0)) (avs := [vi v4, vi v1, vi v2]) (rest := []) (tX10_canWind 0 v4 v1 v2 μ2) (by decide) (by decide +kernel) lk_11_361 yv_X10_canWind rfl (by decide) rfl rfl rfl (Nat.le_of_ble_eq_true rfl) (fun x5 μ6 => ?_)
      refine sIf_eq oI (off := 18) (tgt := 72) (by decide +kernel) (by decide) (fun _ => ?_) (fun _ => ?_)
      · exact X11_sure_J72_ok ih v1 v2 v3 v4 μ6
      · refine sBk (lo' := [(0, vr 12 0), (1, vi v1), (2, vi v2), (3, vi v3), (4, vi v4)]) (st' := [vi (-1), vi v3]) (μ' := μ6) (pc' := 59) [(.iload_n 3, 0, 0, 0, 0), (.iconst (-1), 0, 0, (-1), 0)] (by decide +kernel) rfl rfl ?_
        refine sIc_ne oI (off := 8) (tgt := 67) (by decide +kernel) (by decide) (fun _ => ?_) (fun _ => ?_)
        · refine sBk (lo' := [(0, vr 12 0), (1, vi v1), (2, vi v2), (3, vi v3), (4, vi v4)]) (st' := [vi (v3 &&& v4)]) (μ' := μ6) (pc' := 71) [(.iload_n 3, 0, 0, 0, 0), (.iload 4, 0, 0, 0, 0), (.iand, 0, 0, 0, 0)] (by decide +kernel) rfl rfl ?_
          refine sWk (lo' := [(0, vr 12 0), (1, vi v1), (2, vi v2), (4, vi v4)]) [0, 1, 2, 4] rfl ?_
          exact X11_sure_J71_ok ih v1 v2 v4 (v3 &&& v4) μ6
        · refine sBk (lo' := [(0, vr 12 0), (1, vi v1), (2, vi v2), (3, vi v3), (4, vi v4)]) (st' := [vi v4]) (μ' := μ6) (pc' := 64) [(.iload 4, 0, 0, 0, 0)] (by decide +kernel) rfl rfl ?_
          refine sGt (off := 7) (tgt := 71) (by decide +kernel) (by decide) ?_
          refine sWk (lo' := [(0, vr 12 0), (1, vi v1), (2, vi v2), (4, vi v4)]) [0, 1, 2, 4] rfl ?_
          exact X11_sure_J71_ok ih v1 v2 v4 v4 μ6
def X11_sure (a1 : Int32) (a2 : Int32) (μ : sM) : Option (Int32 × sM) :=
  bI (X11_isNoSpring a1 μ) fun x1 μ2 =>
    if x1 = 0 then
      bI (X11_isNoSpring a2 μ2) fun x3 μ4 =>
        if x3 = 0 then
          X11_sure_L25 fuN a1 a2 (-1) 0 μ4
        else
          X11_sure_J14 μ4
    else
      X11_sure_J14 μ2
theorem tX11_sure (a1 : Int32) (a2 : Int32) (μ : sM) : sMt yX11_sure cX11_sure 5 (some .int) 3 [vr 12 0, vi a1, vi a2] μ (oI (X11_sure a1 a2 μ)) := by
  refine sMt_of (own := 11) (bl := false) (by decide +kernel) rfl (Nat.le_of_ble_eq_true rfl) (fun r ρ h => ?_) ?_
  · obtain ⟨q, -, hq⟩ := Option.map_eq_some_iff.mp h
    cases hq
    exact Or.inl rfl
  · unfold X11_sure
    show sOk 11 cX11_sure 5 3 false 0 [(0, vr 12 0), (1, vi a1), (2, vi a2)] [] μ _
    refine sBk (lo' := [(0, vr 12 0), (1, vi a1), (2, vi a2)]) (st' := [vi a1]) (μ' := μ) (pc' := 1) [(.iload_n 1, 0, 0, 0, 0)] (by decide +kernel) rfl rfl ?_
    refine sCsI oI rfl (avs := [vi a1]) (rest := []) (tX11_isNoSpring a1 μ) (by decide) (by decide +kernel) lk_11_355 ys_X11_isNoSpring rfl rfl (Nat.le_of_ble_eq_true rfl) (fun x1 μ2 => ?_)
    refine sIf_ne oI (off := 10) (tgt := 14) (by decide +kernel) (by decide) (fun _ => ?_) (fun _ => ?_)
    · refine sWk (lo' := [(0, vr 12 0)]) [0] rfl ?_
      exact X11_sure_J14_ok μ2
    · refine sBk (lo' := [(0, vr 12 0), (1, vi a1), (2, vi a2)]) (st' := [vi a2]) (μ' := μ2) (pc' := 8) [(.iload_n 2, 0, 0, 0, 0)] (by decide +kernel) rfl rfl ?_
      refine sCsI oI rfl (avs := [vi a2]) (rest := []) (tX11_isNoSpring a2 μ2) (by decide) (by decide +kernel) lk_11_355 ys_X11_isNoSpring rfl rfl (Nat.le_of_ble_eq_true rfl) (fun x3 μ4 => ?_)
      refine sIf_eq oI (off := 9) (tgt := 20) (by decide +kernel) (by decide) (fun _ => ?_) (fun _ => ?_)
      · refine sBk (lo' := [(4, vi 0), (3, vi (-1)), (0, vr 12 0), (1, vi a1), (2, vi a2)]) (st' := []) (μ' := μ4) (pc' := 25) [(.iconst (-1), 0, 0, (-1), 0), (.istore_n 3, 0, 0, 0, 0), (.iconst 0, 0, 0, 0, 0), (.istore 4, 0, 0, 0, 0)] (by decide +kernel) rfl rfl ?_
        refine sWk (lo' := [(0, vr 12 0), (1, vi a1), (2, vi a2), (3, vi (-1)), (4, vi 0)]) [2, 3, 4, 1, 0] rfl ?_
        exact X11_sure_L25_ok fuN a1 a2 (-1) 0 μ4
      · refine sWk (lo' := [(0, vr 12 0)]) [0] rfl ?_
        exact X11_sure_J14_ok μ4
/-! ClockRiver.cheapest -/
def X11_cheapest_J14 (μ : sM) : Option (Int32 × sM) :=
  bI (X11_refuse 5 μ) fun x1 μ2 =>
    some (x1, μ2)
theorem X11_cheapest_J14_ok (μ : sM) : sOk 11 cX11_cheapest 6 3 false 14 [(0, vr 12 0)] [] μ (oI (X11_cheapest_J14 μ)) := by
  unfold X11_cheapest_J14
  refine sBk (lo' := [(0, vr 12 0)]) (st' := [vi 5, vr 12 0]) (μ' := μ) (pc' := 16) [(.aload_n 0, 0, 0, 0, 0), (.iconst 5, 0, 0, 5, 0)] (by decide +kernel) rfl rfl ?_
  refine sCvI oI rfl (ci := 11) (q := (12, 0)) (avs := [vi 5]) (rest := []) (tX11_refuse 5 μ) (by decide) (by decide +kernel) lk_11_110 yv_X11_refuse rfl (by decide) rfl rfl rfl (Nat.le_of_ble_eq_true rfl) (fun x1 μ2 => ?_)
  exact sRi (by decide +kernel) (fun h => by cases h)
def X11_cheapest_J88 (k25 : Int32 → Int32 → Int32 → Int32 → sM → Option (Int32 × sM)) (v1 : Int32) (v2 : Int32) (v3 : Int32) (v4 : Int32) (μ : sM) : Option (Int32 × sM) :=
  k25 v1 v2 v3 (v4 + 1) μ
theorem X11_cheapest_J88_ok {k25 : Int32 → Int32 → Int32 → Int32 → sM → Option (Int32 × sM)} (hk25 : ∀ (v1 : Int32) (v2 : Int32) (v3 : Int32) (v4 : Int32) (μ : sM), sOk 11 cX11_cheapest 6 3 false 25 [(0, vr 12 0), (1, vi v1), (2, vi v2), (3, vi v3), (4, vi v4)] [] μ (oI (k25 v1 v2 v3 v4 μ))) (v1 : Int32) (v2 : Int32) (v3 : Int32) (v4 : Int32) (μ : sM) : sOk 11 cX11_cheapest 6 3 false 88 [(0, vr 12 0), (1, vi v1), (2, vi v2), (3, vi v3), (4, vi v4)] [] μ (oI (X11_cheapest_J88 k25 v1 v2 v3 v4 μ)) := by
  unfold X11_cheapest_J88
  refine sBk (lo' := [(4, vi (v4 + 1)), (0, vr 12 0), (1, vi v1), (2, vi v2), (3, vi v3)]) (st' := []) (μ' := μ) (pc' := 91) [(.iinc 4 1, 0, 0, 1, 0)] (by decide +kernel) rfl rfl ?_
  refine sGt (off := (-66)) (tgt := 25) (by decide +kernel) (by decide) ?_
  refine sWk (lo' := [(0, vr 12 0), (1, vi v1), (2, vi v2), (3, vi v3), (4, vi (v4 + 1))]) [1, 2, 3, 4, 0] rfl ?_
  exact hk25 v1 v2 v3 (v4 + 1) μ
def X11_cheapest_J87 (k25 : Int32 → Int32 → Int32 → Int32 → sM → Option (Int32 × sM)) (v1 : Int32) (v2 : Int32) (v4 : Int32) (s0 : Int32) (μ : sM) : Option (Int32 × sM) :=
  X11_cheapest_J88 k25 v1 v2 s0 v4 μ
theorem X11_cheapest_J87_ok {k25 : Int32 → Int32 → Int32 → Int32 → sM → Option (Int32 × sM)} (hk25 : ∀ (v1 : Int32) (v2 : Int32) (v3 : Int32) (v4 : Int32) (μ : sM), sOk 11 cX11_cheapest 6 3 false 25 [(0, vr 12 0), (1, vi v1), (2, vi v2), (3, vi v3), (4, vi v4)] [] μ (oI (k25 v1 v2 v3 v4 μ))) (v1 : Int32) (v2 : Int32) (v4 : Int32) (s0 : Int32) (μ : sM) : sOk 11 cX11_cheapest 6 3 false 87 [(0, vr 12 0), (1, vi v1), (2, vi v2), (4, vi v4)] [vi s0] μ (oI (X11_cheapest_J87 k25 v1 v2 v4 s0 μ)) := by
  unfold X11_cheapest_J87
  refine sBk (lo' := [(3, vi s0), (0, vr 12 0), (1, vi v1), (2, vi v2), (4, vi v4)]) (st' := []) (μ' := μ) (pc' := 88) [(.istore_n 3, 0, 0, 0, 0)] (by decide +kernel) rfl rfl ?_
  refine sWk (lo' := [(0, vr 12 0), (1, vi v1), (2, vi v2), (3, vi s0), (4, vi v4)]) [1, 2, 3, 0, 4] rfl ?_
  exact X11_cheapest_J88_ok hk25 v1 v2 s0 v4 μ
def X11_cheapest_L25 : Nat → Int32 → Int32 → Int32 → Int32 → sM → Option (Int32 × sM)
  | 0, _, _, _, _, _ => none
  | n + 1, v1, v2, v3, v4, μ =>
    bI (X10_sets 0 μ) fun x1 μ2 =>
      if x1 ≤ v4 then
        bI (X11_giveIfAny v3 μ2) fun x3 μ4 =>
          some (x3, μ4)
      else
        bI (X10_canWind 0 v4 v1 v2 μ2) fun x5 μ6 =>
          if x5 = 0 then
            X11_cheapest_J88 (X11_cheapest_L25 n) v1 v2 v3 v4 μ6
          else
            bI (X10_wagesOf 0 v4 μ6) fun x7 μ8 =>
              if v3 = (-1) then
                X11_cheapest_J87 (X11_cheapest_L25 n) v1 v2 v4 x7 μ8
              else
                X11_cheapest_J87 (X11_cheapest_L25 n) v1 v2 v4 (imn v3 x7) μ8
theorem X11_cheapest_L25_ok : ∀ (n : Nat) (v1 : Int32) (v2 : Int32) (v3 : Int32) (v4 : Int32) (μ : sM), sOk 11 cX11_cheapest 6 3 false 25 [(0, vr 12 0), (1, vi v1), (2, vi v2), (3, vi v3), (4, vi v4)] [] μ (oI (X11_cheapest_L25 n v1 v2 v3 v4 μ)) := by
  intro n
  induction n with
  | zero =>
    intros
    exact sNo
  | succ n ih =>
    intro v1 v2 v3 v4 μ
    unfold X11_cheapest_L25
    refine sBk (lo' := [(0, vr 12 0), (1, vi v1), (2, vi v2), (3, vi v3), (4, vi v4)]) (st' := [vr 11 0, vi v4]) (μ' := μ) (pc' := 34) [(.iload 4, 0, 0, 0, 0), (.aload_n 0, 0, 0, 0, 0), (.getfield 16, 11, 4, 0, 0), (.getfield 241, 4, 10, 0, 0)] (by decide +kernel) rfl rfl ?_
    refine sCvI oI rfl (ci := 10) (q := (11, 0)) (avs := []) (rest := [vi v4]) (tX10_sets 0 μ) (by decide) (by decide +kernel) lk_11_358 yv_X10_sets rfl (by decide) rfl rfl rfl (Nat.le_of_ble_eq_true rfl) (fun x1 μ2 => ?_)
    refine sIc_ge oI (off := 57) (tgt := 94) (by decide +kernel) (by decide) (fun _ => ?_) (fun _ => ?_)
    · refine sBk (lo' := [(0, vr 12 0), (1, vi v1), (2, vi v2), (3, vi v3), (4, vi v4)]) (st' := [vi v3, vr 12 0]) (μ' := μ2) (pc' := 96) [(.aload_n 0, 0, 0, 0, 0), (.iload_n 3, 0, 0, 0, 0)] (by decide +kernel) rfl rfl ?_
      refine sCvI oI rfl (ci := 11) (q := (12, 0)) (avs := [vi v3]) (rest := []) (tX11_giveIfAny v3 μ2) (by decide) (by decide +kernel) lk_11_314 yv_X11_giveIfAny rfl (by decide) rfl rfl rfl (Nat.le_of_ble_eq_true rfl) (fun x3 μ4 => ?_)
      exact sRi (by decide +kernel) (fun h => by cases h)
    · refine sBk (lo' := [(0, vr 12 0), (1, vi v1), (2, vi v2), (3, vi v3), (4, vi v4)]) (st' := [vi v2, vi v1, vi v4, vr 11 0]) (μ' := μ2) (pc' := 51) [(.aload_n 0, 0, 0, 0, 0), (.getfield 16, 11, 4, 0, 0), (.getfield 241, 4, 10, 0, 0), (.iload 4, 0, 0, 0, 0), (.iload_n 1, 0, 0, 0, 0), (.iload_n 2, 0, 0, 0, 0)] (by decide +kernel) rfl rfl ?_
      refine sCvI oI rfl (ci := 10) (q := (11, 0)) (avs := [vi v4, vi v1, vi v2]) (rest := []) (tX10_canWind 0 v4 v1 v2 μ2) (by decide) (by decide +kernel) lk_11_361 yv_X10_canWind rfl (by decide) rfl rfl rfl (Nat.le_of_ble_eq_true rfl) (fun x5 μ6 => ?_)
      refine sIf_eq oI (off := 34) (tgt := 88) (by decide +kernel) (by decide) (fun _ => ?_) (fun _ => ?_)
      · exact X11_cheapest_J88_ok ih v1 v2 v3 v4 μ6
      · refine sBk (lo' := [(0, vr 12 0), (1, vi v1), (2, vi v2), (3, vi v3), (4, vi v4)]) (st' := [vi v4, vr 11 0]) (μ' := μ6) (pc' := 66) [(.aload_n 0, 0, 0, 0, 0), (.getfield 16, 11, 4, 0, 0), (.getfield 241, 4, 10, 0, 0), (.iload 4, 0, 0, 0, 0)] (by decide +kernel) rfl rfl ?_
        refine sCvI oI rfl (ci := 10) (q := (11, 0)) (avs := [vi v4]) (rest := []) (tX10_wagesOf 0 v4 μ6) (by decide) (by decide +kernel) lk_11_364 yv_X10_wagesOf rfl (by decide) rfl rfl rfl (Nat.le_of_ble_eq_true rfl) (fun x7 μ8 => ?_)
        refine sBk (lo' := [(5, vi x7), (0, vr 12 0), (1, vi v1), (2, vi v2), (3, vi v3), (4, vi v4)]) (st' := [vi (-1), vi v3]) (μ' := μ8) (pc' := 73) [(.istore 5, 0, 0, 0, 0), (.iload_n 3, 0, 0, 0, 0), (.iconst (-1), 0, 0, (-1), 0)] (by decide +kernel) rfl rfl ?_
        refine sIc_ne oI (off := 8) (tgt := 81) (by decide +kernel) (by decide) (fun _ => ?_) (fun _ => ?_)
        · refine sBk (lo' := [(5, vi x7), (0, vr 12 0), (1, vi v1), (2, vi v2), (3, vi v3), (4, vi v4)]) (st' := [vi x7, vi v3]) (μ' := μ8) (pc' := 84) [(.iload_n 3, 0, 0, 0, 0), (.iload 5, 0, 0, 0, 0)] (by decide +kernel) rfl rfl ?_
          refine sMin (idx := 212) (p1 := 1055) (by decide +kernel) (by decide) (Nat.le_of_ble_eq_true rfl) ?_
          refine sWk (lo' := [(0, vr 12 0), (1, vi v1), (2, vi v2), (4, vi v4)]) [1, 2, 3, 5] rfl ?_
          exact X11_cheapest_J87_ok ih v1 v2 v4 (imn v3 x7) μ8
        · refine sBk (lo' := [(5, vi x7), (0, vr 12 0), (1, vi v1), (2, vi v2), (3, vi v3), (4, vi v4)]) (st' := [vi x7]) (μ' := μ8) (pc' := 78) [(.iload 5, 0, 0, 0, 0)] (by decide +kernel) rfl rfl ?_
          refine sGt (off := 9) (tgt := 87) (by decide +kernel) (by decide) ?_
          refine sWk (lo' := [(0, vr 12 0), (1, vi v1), (2, vi v2), (4, vi v4)]) [1, 2, 3, 5] rfl ?_
          exact X11_cheapest_J87_ok ih v1 v2 v4 x7 μ8
def X11_cheapest (a1 : Int32) (a2 : Int32) (μ : sM) : Option (Int32 × sM) :=
  bI (X11_isNoSpring a1 μ) fun x1 μ2 =>
    if x1 = 0 then
      bI (X11_isNoSpring a2 μ2) fun x3 μ4 =>
        if x3 = 0 then
          X11_cheapest_L25 fuN a1 a2 (-1) 0 μ4
        else
          X11_cheapest_J14 μ4
    else
      X11_cheapest_J14 μ2
theorem tX11_cheapest (a1 : Int32) (a2 : Int32) (μ : sM) : sMt yX11_cheapest cX11_cheapest 6 (some .int) 3 [vr 12 0, vi a1, vi a2] μ (oI (X11_cheapest a1 a2 μ)) := by
  refine sMt_of (own := 11) (bl := false) (by decide +kernel) rfl (Nat.le_of_ble_eq_true rfl) (fun r ρ h => ?_) ?_
  · obtain ⟨q, -, hq⟩ := Option.map_eq_some_iff.mp h
    cases hq
    exact Or.inl rfl
  · unfold X11_cheapest
    show sOk 11 cX11_cheapest 6 3 false 0 [(0, vr 12 0), (1, vi a1), (2, vi a2)] [] μ _
    refine sBk (lo' := [(0, vr 12 0), (1, vi a1), (2, vi a2)]) (st' := [vi a1]) (μ' := μ) (pc' := 1) [(.iload_n 1, 0, 0, 0, 0)] (by decide +kernel) rfl rfl ?_
    refine sCsI oI rfl (avs := [vi a1]) (rest := []) (tX11_isNoSpring a1 μ) (by decide) (by decide +kernel) lk_11_355 ys_X11_isNoSpring rfl rfl (Nat.le_of_ble_eq_true rfl) (fun x1 μ2 => ?_)
    refine sIf_ne oI (off := 10) (tgt := 14) (by decide +kernel) (by decide) (fun _ => ?_) (fun _ => ?_)
    · refine sWk (lo' := [(0, vr 12 0)]) [0] rfl ?_
      exact X11_cheapest_J14_ok μ2
    · refine sBk (lo' := [(0, vr 12 0), (1, vi a1), (2, vi a2)]) (st' := [vi a2]) (μ' := μ2) (pc' := 8) [(.iload_n 2, 0, 0, 0, 0)] (by decide +kernel) rfl rfl ?_
      refine sCsI oI rfl (avs := [vi a2]) (rest := []) (tX11_isNoSpring a2 μ2) (by decide) (by decide +kernel) lk_11_355 ys_X11_isNoSpring rfl rfl (Nat.le_of_ble_eq_true rfl) (fun x3 μ4 => ?_)
      refine sIf_eq oI (off := 9) (tgt := 20) (by decide +kernel) (by decide) (fun _ => ?_) (fun _ => ?_)
      · refine sBk (lo' := [(4, vi 0), (3, vi (-1)), (0, vr 12 0), (1, vi a1), (2, vi a2)]) (st' := []) (μ' := μ4) (pc' := 25) [(.iconst (-1), 0, 0, (-1), 0), (.istore_n 3, 0, 0, 0, 0), (.iconst 0, 0, 0, 0, 0), (.istore 4, 0, 0, 0, 0)] (by decide +kernel) rfl rfl ?_
        refine sWk (lo' := [(0, vr 12 0), (1, vi a1), (2, vi a2), (3, vi (-1)), (4, vi 0)]) [2, 3, 4, 1, 0] rfl ?_
        exact X11_cheapest_L25_ok fuN a1 a2 (-1) 0 μ4
      · refine sWk (lo' := [(0, vr 12 0)]) [0] rfl ?_
        exact X11_cheapest_J14_ok μ4
/-! ClockRiver.game -/
def X11_game_J22 (μ : sM) : Option (Int32 × sM) :=
  bI (X11_refuse 2 μ) fun x1 μ2 =>
    some (x1, μ2)
theorem X11_game_J22_ok (μ : sM) : sOk 11 cX11_game 4 10 false 22 [(0, vr 12 0)] [] μ (oI (X11_game_J22 μ)) := by
  unfold X11_game_J22
  refine sBk (lo' := [(0, vr 12 0)]) (st' := [vi 2, vr 12 0]) (μ' := μ) (pc' := 24) [(.aload_n 0, 0, 0, 0, 0), (.iconst 2, 0, 0, 2, 0)] (by decide +kernel) rfl rfl ?_
  refine sCvI oI rfl (ci := 11) (q := (12, 0)) (avs := [vi 2]) (rest := []) (tX11_refuse 2 μ) (by decide) (by decide +kernel) lk_11_110 yv_X11_refuse rfl (by decide) rfl rfl rfl (Nat.le_of_ble_eq_true rfl) (fun x1 μ2 => ?_)
  exact sRi (by decide +kernel) (fun h => by cases h)
def X11_game_J42 (μ : sM) : Option (Int32 × sM) :=
  bI (X11_refuse 5 μ) fun x1 μ2 =>
    some (x1, μ2)
theorem X11_game_J42_ok (μ : sM) : sOk 11 cX11_game 4 10 false 42 [(0, vr 12 0)] [] μ (oI (X11_game_J42 μ)) := by
  unfold X11_game_J42
  refine sBk (lo' := [(0, vr 12 0)]) (st' := [vi 5, vr 12 0]) (μ' := μ) (pc' := 44) [(.aload_n 0, 0, 0, 0, 0), (.iconst 5, 0, 0, 5, 0)] (by decide +kernel) rfl rfl ?_
  refine sCvI oI rfl (ci := 11) (q := (12, 0)) (avs := [vi 5]) (rest := []) (tX11_refuse 5 μ) (by decide) (by decide +kernel) lk_11_110 yv_X11_refuse rfl (by decide) rfl rfl rfl (Nat.le_of_ble_eq_true rfl) (fun x1 μ2 => ?_)
  exact sRi (by decide +kernel) (fun h => by cases h)
def X11_game (a1 : Int32) (a2 : Int32) (a3 : Int32) (μ : sM) : Option (Int32 × sM) :=
  bI (X4_hasMill 0 a1 μ) fun x1 μ2 =>
    if x1 = 0 then
      X11_game_J22 μ2
    else
      bI (X4_hasMill 0 a2 μ2) fun x3 μ4 =>
        if x3 = 0 then
          X11_game_J22 μ4
        else
          if a1 = a2 then
            X11_game_J42 μ4
          else
            if a3 < 0 then
              X11_game_J42 μ4
            else
              if a3 ≤ 4 then
                bI (X0_bestLead 0 a1 a2 a3 μ4) fun x5 μ6 =>
                  bI (X11_give x5 μ6) fun x7 μ8 =>
                    some (x7, μ8)
              else
                X11_game_J42 μ4
theorem tX11_game (a1 : Int32) (a2 : Int32) (a3 : Int32) (μ : sM) : sMt yX11_game cX11_game 4 (some .int) 10 [vr 12 0, vi a1, vi a2, vi a3] μ (oI (X11_game a1 a2 a3 μ)) := by
  refine sMt_of (own := 11) (bl := false) (by decide +kernel) rfl (Nat.le_of_ble_eq_true rfl) (fun r ρ h => ?_) ?_
  · obtain ⟨q, -, hq⟩ := Option.map_eq_some_iff.mp h
    cases hq
    exact Or.inl rfl
  · unfold X11_game
    show sOk 11 cX11_game 4 10 false 0 [(0, vr 12 0), (1, vi a1), (2, vi a2), (3, vi a3)] [] μ _
    refine sBk (lo' := [(0, vr 12 0), (1, vi a1), (2, vi a2), (3, vi a3)]) (st' := [vi a1, vr 5 0]) (μ' := μ) (pc' := 5) [(.aload_n 0, 0, 0, 0, 0), (.getfield 16, 11, 4, 0, 0), (.iload_n 1, 0, 0, 0, 0)] (by decide +kernel) rfl rfl ?_
    refine sCvI oI rfl (ci := 4) (q := (5, 0)) (avs := [vi a1]) (rest := []) (tX4_hasMill 0 a1 μ) (by decide) (by decide +kernel) lk_11_226 yv_X4_hasMill rfl (by decide) rfl rfl rfl (Nat.le_of_ble_eq_true rfl) (fun x1 μ2 => ?_)
    refine sIf_eq oI (off := 14) (tgt := 22) (by decide +kernel) (by decide) (fun _ => ?_) (fun _ => ?_)
    · refine sWk (lo' := [(0, vr 12 0)]) [0] rfl ?_
      exact X11_game_J22_ok μ2
    · refine sBk (lo' := [(0, vr 12 0), (1, vi a1), (2, vi a2), (3, vi a3)]) (st' := [vi a2, vr 5 0]) (μ' := μ2) (pc' := 16) [(.aload_n 0, 0, 0, 0, 0), (.getfield 16, 11, 4, 0, 0), (.iload_n 2, 0, 0, 0, 0)] (by decide +kernel) rfl rfl ?_
      refine sCvI oI rfl (ci := 4) (q := (5, 0)) (avs := [vi a2]) (rest := []) (tX4_hasMill 0 a2 μ2) (by decide) (by decide +kernel) lk_11_226 yv_X4_hasMill rfl (by decide) rfl rfl rfl (Nat.le_of_ble_eq_true rfl) (fun x3 μ4 => ?_)
      refine sIf_ne oI (off := 9) (tgt := 28) (by decide +kernel) (by decide) (fun _ => ?_) (fun _ => ?_)
      · refine sBk (lo' := [(0, vr 12 0), (1, vi a1), (2, vi a2), (3, vi a3)]) (st' := [vi a2, vi a1]) (μ' := μ4) (pc' := 30) [(.iload_n 1, 0, 0, 0, 0), (.iload_n 2, 0, 0, 0, 0)] (by decide +kernel) rfl rfl ?_
        refine sIc_eq oI (off := 12) (tgt := 42) (by decide +kernel) (by decide) (fun _ => ?_) (fun _ => ?_)
        · refine sWk (lo' := [(0, vr 12 0)]) [0] rfl ?_
          exact X11_game_J42_ok μ4
        · refine sBk (lo' := [(0, vr 12 0), (1, vi a1), (2, vi a2), (3, vi a3)]) (st' := [vi a3]) (μ' := μ4) (pc' := 34) [(.iload_n 3, 0, 0, 0, 0)] (by decide +kernel) rfl rfl ?_
          refine sIf_lt oI (off := 8) (tgt := 42) (by decide +kernel) (by decide) (fun _ => ?_) (fun _ => ?_)
          · refine sWk (lo' := [(0, vr 12 0)]) [0] rfl ?_
            exact X11_game_J42_ok μ4
          · refine sBk (lo' := [(0, vr 12 0), (1, vi a1), (2, vi a2), (3, vi a3)]) (st' := [vi 4, vi a3]) (μ' := μ4) (pc' := 39) [(.iload_n 3, 0, 0, 0, 0), (.iconst 4, 0, 0, 4, 0)] (by decide +kernel) rfl rfl ?_
            refine sIc_le oI (off := 9) (tgt := 48) (by decide +kernel) (by decide) (fun _ => ?_) (fun _ => ?_)
            · refine sBk (lo' := [(0, vr 12 0), (1, vi a1), (2, vi a2), (3, vi a3)]) (st' := [vi a3, vi a2, vi a1, vr 5 0, vr 1 0, vr 12 0]) (μ' := μ4) (pc' := 60) [(.aload_n 0, 0, 0, 0, 0), (.aload_n 0, 0, 0, 0, 0), (.getfield 66, 11, 12, 0, 0), (.aload_n 0, 0, 0, 0, 0), (.getfield 16, 11, 4, 0, 0), (.iload_n 1, 0, 0, 0, 0), (.iload_n 2, 0, 0, 0, 0), (.iload_n 3, 0, 0, 0, 0)] (by decide +kernel) rfl rfl ?_
              refine sCvI oI rfl (ci := 0) (q := (1, 0)) (avs := [vr 5 0, vi a1, vi a2, vi a3]) (rest := [vr 12 0]) (tX0_bestLead 0 a1 a2 a3 μ4) (by decide) (by decide +kernel) lk_11_367 yv_X0_bestLead rfl (by decide) rfl rfl rfl (Nat.le_of_ble_eq_true rfl) (fun x5 μ6 => ?_)
              refine sCvI oI rfl (ci := 11) (q := (12, 0)) (avs := [vi x5]) (rest := []) (tX11_give x5 μ6) (by decide) (by decide +kernel) lk_11_169 yv_X11_give rfl (by decide) rfl rfl rfl (Nat.le_of_ble_eq_true rfl) (fun x7 μ8 => ?_)
              exact sRi (by decide +kernel) (fun h => by cases h)
            · refine sWk (lo' := [(0, vr 12 0)]) [0] rfl ?_
              exact X11_game_J42_ok μ4
      · refine sWk (lo' := [(0, vr 12 0)]) [0] rfl ?_
        exact X11_game_J22_ok μ4
