theorem lk_1_112 : Cond.methodLink (kRn 1) 112 yX1_waits ∈ sT := sT_in (n := 1383) (by decide +kernel) rfl
theorem lk_1_115 : Cond.methodLink (kRn 1) 115 yX1_winds ∈ sT := sT_in (n := 1389) (by decide +kernel) rfl
theorem lk_1_121 : Cond.methodLink (kRn 1) 121 yX1_sets ∈ sT := sT_in (n := 1395) (by decide +kernel) rfl
theorem lk_1_124 : Cond.methodLink (kRn 1) 124 yX1_turnsTo ∈ sT := sT_in (n := 1399) (by decide +kernel) rfl
theorem lk_1_128 : Cond.methodLink (kRn 1) 128 yX1_doesAny ∈ sT := sT_in (n := 1403) (by decide +kernel) rfl
theorem lk_1_132 : Cond.methodLink (kRn 1) 132 yX4_hasHours ∈ sT := sT_in (n := 1387) (by decide +kernel) rfl
theorem lk_1_135 : Cond.methodLink (kRn 1) 135 yX4_passHours ∈ sT := sT_in (n := 1388) (by decide +kernel) rfl
theorem lk_1_138 : Cond.methodLink (kRn 1) 138 yX4_isLawDay ∈ sT := sT_in (n := 1393) (by decide +kernel) rfl
theorem lk_1_141 : Cond.methodLink (kRn 1) 141 yX4_letWind ∈ sT := sT_in (n := 1394) (by decide +kernel) rfl
theorem lk_1_157 : Cond.methodLink (kRn 1) 157 yX1_drawBy ∈ sT := sT_in (n := 1407) (by decide +kernel) rfl
theorem lk_1_58 : Cond.methodLink (kRn 1) 58 yX1_rowBehindEnd ∈ sT := sT_in (n := 1375) (by decide +kernel) rfl
theorem lk_1_62 : Cond.methodLink (kRn 1) 62 yX1_isDone ∈ sT := sT_in (n := 1379) (by decide +kernel) rfl
theorem lk_1_66 : Cond.methodLink (kRn 1) 66 yX1_rowBehindStep ∈ sT := sT_in (n := 1412) (by decide +kernel) rfl
theorem lk_1_72 : Cond.methodLink (kRn 1) 72 yX1_holds ∈ sT := sT_in (n := 1416) (by decide +kernel) rfl
theorem lk_1_94 : Cond.methodLink (kRn 1) 94 yX1_compares ∈ sT := sT_in (n := 1420) (by decide +kernel) rfl
theorem yv_X1_compares : yV yX1_compares cX1_compares 3 (some .boolean) 2 := ⟨⟨sT_in (n := 1423) (by decide +kernel) rfl, sT_in (n := 148) (by decide +kernel) rfl, by decide +kernel, by decide⟩, sT_in (n := 1422) (by decide +kernel) rfl, sT_in (n := 44) (by decide +kernel) rfl⟩
theorem yv_X1_doesAny : yV yX1_doesAny cX1_doesAny 2 (some .boolean) 0 := ⟨⟨sT_in (n := 1406) (by decide +kernel) rfl, sT_in (n := 148) (by decide +kernel) rfl, by decide +kernel, by decide⟩, sT_in (n := 1405) (by decide +kernel) rfl, sT_in (n := 40) (by decide +kernel) rfl⟩
theorem yv_X1_drawBy : yV yX1_drawBy cX1_drawBy 2 (some .int) 1 := ⟨⟨sT_in (n := 1410) (by decide +kernel) rfl, sT_in (n := 148) (by decide +kernel) rfl, by decide +kernel, by decide⟩, sT_in (n := 1409) (by decide +kernel) rfl, sT_in (n := 41) (by decide +kernel) rfl⟩
theorem yv_X1_holds : yV yX1_holds cX1_holds 2 (some .boolean) 1 := ⟨⟨sT_in (n := 1419) (by decide +kernel) rfl, sT_in (n := 148) (by decide +kernel) rfl, by decide +kernel, by decide⟩, sT_in (n := 1418) (by decide +kernel) rfl, sT_in (n := 43) (by decide +kernel) rfl⟩
theorem yv_X1_isDone : yV yX1_isDone cX1_isDone 2 (some .boolean) 1 := ⟨⟨sT_in (n := 1382) (by decide +kernel) rfl, sT_in (n := 148) (by decide +kernel) rfl, by decide +kernel, by decide⟩, sT_in (n := 1381) (by decide +kernel) rfl, sT_in (n := 35) (by decide +kernel) rfl⟩
theorem yv_X1_rowBehindEnd : yV yX1_rowBehindEnd cX1_rowBehindEnd 3 (some .int) 1 := ⟨⟨sT_in (n := 1378) (by decide +kernel) rfl, sT_in (n := 148) (by decide +kernel) rfl, by decide +kernel, by decide⟩, sT_in (n := 1377) (by decide +kernel) rfl, sT_in (n := 34) (by decide +kernel) rfl⟩
theorem yv_X1_rowBehindStep : yV yX1_rowBehindStep cX1_rowBehindStep 2 (some .int) 1 := ⟨⟨sT_in (n := 1415) (by decide +kernel) rfl, sT_in (n := 148) (by decide +kernel) rfl, by decide +kernel, by decide⟩, sT_in (n := 1414) (by decide +kernel) rfl, sT_in (n := 42) (by decide +kernel) rfl⟩
theorem yv_X1_sets : yV yX1_sets cX1_sets 3 (some .boolean) 2 := ⟨⟨sT_in (n := 1398) (by decide +kernel) rfl, sT_in (n := 148) (by decide +kernel) rfl, by decide +kernel, by decide⟩, sT_in (n := 1397) (by decide +kernel) rfl, sT_in (n := 38) (by decide +kernel) rfl⟩
theorem yv_X1_turnsTo : yV yX1_turnsTo cX1_turnsTo 2 (some .boolean) 1 := ⟨⟨sT_in (n := 1402) (by decide +kernel) rfl, sT_in (n := 148) (by decide +kernel) rfl, by decide +kernel, by decide⟩, sT_in (n := 1401) (by decide +kernel) rfl, sT_in (n := 39) (by decide +kernel) rfl⟩
theorem yv_X1_waits : yV yX1_waits cX1_waits 2 (some .boolean) 1 := ⟨⟨sT_in (n := 1386) (by decide +kernel) rfl, sT_in (n := 148) (by decide +kernel) rfl, by decide +kernel, by decide⟩, sT_in (n := 1385) (by decide +kernel) rfl, sT_in (n := 36) (by decide +kernel) rfl⟩
theorem yv_X1_winds : yV yX1_winds cX1_winds 3 (some .boolean) 2 := ⟨⟨sT_in (n := 1392) (by decide +kernel) rfl, sT_in (n := 148) (by decide +kernel) rfl, by decide +kernel, by decide⟩, sT_in (n := 1391) (by decide +kernel) rfl, sT_in (n := 37) (by decide +kernel) rfl⟩
theorem yv_X4_hasHours : yV yX4_hasHours cX4_hasHours 2 (some .boolean) 1 := ⟨⟨sT_in (n := 1087) (by decide +kernel) rfl, sT_in (n := 138) (by decide +kernel) rfl, by decide +kernel, by decide⟩, sT_in (n := 1085) (by decide +kernel) rfl, sT_in (n := 1086) (by decide +kernel) rfl⟩
theorem yv_X4_isLawDay : yV yX4_isLawDay cX4_isLawDay 1 (some .boolean) 0 := ⟨⟨sT_in (n := 1137) (by decide +kernel) rfl, sT_in (n := 138) (by decide +kernel) rfl, by decide +kernel, by decide⟩, sT_in (n := 1135) (by decide +kernel) rfl, sT_in (n := 1136) (by decide +kernel) rfl⟩
/-! ClockRiver$Life.rowBehindEnd -/
def X1_rowBehindEnd (a0 : Nat) (a1 : Int32) (μ : sM) : Option (Int32 × sM) :=
  if (rR μ 2 a0 9) = 1 then
    if inb a1 60 = true then
      if (rR μ 2 a0 9) = 1 then
        if inb (rI μ 48 0 (ix a1)) 60 = true then
          if (rI μ 43 0 (ix (rI μ 48 0 (ix a1)))) = 24 then
            if inb (rI μ 48 0 (ix a1)) 60 = true then
              if inb (rI μ 48 0 (ix a1)) 60 = true then
                if inb (rI μ 48 0 (ix a1)) 60 = true then
                  if (rI (wI μ 23 a0 (ix (rI μ 48 0 (ix a1))) ((rI μ 23 a0 (ix (rI μ 48 0 (ix a1)))) - 1)) 23 a0 (ix (rI μ 48 0 (ix a1)))) ≤ 0 then
                    some ((a1 + 1), wI μ 23 a0 (ix (rI μ 48 0 (ix a1))) ((rI μ 23 a0 (ix (rI μ 48 0 (ix a1)))) - 1))
                  else
                    some (((rI μ 48 0 (ix a1)) + 1), wI μ 23 a0 (ix (rI μ 48 0 (ix a1))) ((rI μ 23 a0 (ix (rI μ 48 0 (ix a1)))) - 1))
                else none
              else none
            else none
          else
            some ((a1 + 1), μ)
        else none
      else none
    else none
  else none
theorem tX1_rowBehindEnd (a0 : Nat) (a1 : Int32) (μ : sM) : sMt yX1_rowBehindEnd cX1_rowBehindEnd 3 (some .int) 1 [vr 2 a0, vi a1] μ (oI (X1_rowBehindEnd a0 a1 μ)) := by
  refine sMt_of (own := 1) (bl := false) (by decide +kernel) rfl (Nat.le_of_ble_eq_true rfl) (fun r ρ h => ?_) ?_
  · obtain ⟨q, -, hq⟩ := Option.map_eq_some_iff.mp h
    cases hq
    exact Or.inl rfl
  · unfold X1_rowBehindEnd
    show sOk 1 cX1_rowBehindEnd 3 1 false 0 [(0, vr 2 a0), (1, vi a1)] [] μ _
    refine sBk (lo' := [(0, vr 2 a0), (1, vi a1)]) (st' := [vr 2 a0]) (μ' := μ) (pc' := 1) [(.aload_n 0, 0, 0, 0, 0)] (by decide +kernel) rfl rfl ?_
    refine sCk oI rfl (fun h1 => ?_)
    refine sGr (idx := 47) (ci := 1) (sl := 9) (n := 0) (by decide +kernel) rfl rfl h1 ?_
    refine sBk (lo' := [(0, vr 2 a0), (1, vi a1)]) (st' := [vi a1, vr 48 0]) (μ' := μ) (pc' := 8) [(.getfield 69, 8, 8, 0, 0), (.iload_n 1, 0, 0, 0, 0)] (by decide +kernel) rfl rfl ?_
    refine sS_ial oI rfl (n := 60) (j := (ix a1)) (by decide +kernel) rfl rfl rfl (fun _ => ?_)
    refine sBk (lo' := [(2, vi (rI μ 48 0 (ix a1))), (0, vr 2 a0), (1, vi a1)]) (st' := [vr 2 a0]) (μ' := μ) (pc' := 11) [(.istore_n 2, 0, 0, 0, 0), (.aload_n 0, 0, 0, 0, 0)] (by decide +kernel) rfl rfl ?_
    refine sCk oI rfl (fun h2 => ?_)
    refine sGr (idx := 47) (ci := 1) (sl := 9) (n := 0) (by decide +kernel) rfl rfl h2 ?_
    refine sBk (lo' := [(2, vi (rI μ 48 0 (ix a1))), (0, vr 2 a0), (1, vi a1)]) (st' := [vi (rI μ 48 0 (ix a1)), vr 43 0]) (μ' := μ) (pc' := 18) [(.getfield 55, 8, 3, 0, 0), (.iload_n 2, 0, 0, 0, 0)] (by decide +kernel) rfl rfl ?_
    refine sS_ial oI rfl (n := 60) (j := (ix (rI μ 48 0 (ix a1)))) (by decide +kernel) rfl rfl rfl (fun _ => ?_)
    refine sBk (lo' := [(2, vi (rI μ 48 0 (ix a1))), (0, vr 2 a0), (1, vi a1)]) (st' := [vi 24, vi (rI μ 43 0 (ix (rI μ 48 0 (ix a1))))]) (μ' := μ) (pc' := 21) [(.bipush 24, 0, 0, 24, 0)] (by decide +kernel) rfl rfl ?_
    refine sIc_ne oI (off := 26) (tgt := 47) (by decide +kernel) (by decide) (fun _ => ?_) (fun _ => ?_)
    · refine sBk (lo' := [(2, vi (rI μ 48 0 (ix a1))), (0, vr 2 a0), (1, vi a1)]) (st' := [vi (a1 + 1)]) (μ' := μ) (pc' := 50) [(.iload_n 1, 0, 0, 0, 0), (.iconst 1, 0, 0, 1, 0), (.iadd, 0, 0, 0, 0)] (by decide +kernel) rfl rfl ?_
      exact sRi (by decide +kernel) (fun h => by cases h)
    · refine sBk (lo' := [(2, vi (rI μ 48 0 (ix a1))), (0, vr 2 a0), (1, vi a1)]) (st' := [vi (rI μ 48 0 (ix a1)), vr 23 a0, vi (rI μ 48 0 (ix a1)), vr 23 a0]) (μ' := μ) (pc' := 30) [(.aload_n 0, 0, 0, 0, 0), (.getfield 11, 1, 10, 0, 0), (.iload_n 2, 0, 0, 0, 0), (.dup2, 0, 0, 0, 0)] (by decide +kernel) rfl rfl ?_
      refine sS_ial oI rfl (n := 60) (j := (ix (rI μ 48 0 (ix a1)))) (by decide +kernel) rfl rfl rfl (fun _ => ?_)
      refine sBk (lo' := [(2, vi (rI μ 48 0 (ix a1))), (0, vr 2 a0), (1, vi a1)]) (st' := [vi ((rI μ 23 a0 (ix (rI μ 48 0 (ix a1)))) - 1), vi (rI μ 48 0 (ix a1)), vr 23 a0]) (μ' := μ) (pc' := 33) [(.iconst 1, 0, 0, 1, 0), (.isub, 0, 0, 0, 0)] (by decide +kernel) rfl rfl ?_
      refine sS_ias oI rfl (n := 60) (j := (ix (rI μ 48 0 (ix a1)))) (by decide +kernel) rfl rfl rfl (fun _ => ?_)
      refine sBk (lo' := [(2, vi (rI μ 48 0 (ix a1))), (0, vr 2 a0), (1, vi a1)]) (st' := [vi (rI μ 48 0 (ix a1)), vr 23 a0]) (μ' := wI μ 23 a0 (ix (rI μ 48 0 (ix a1))) ((rI μ 23 a0 (ix (rI μ 48 0 (ix a1)))) - 1)) (pc' := 39) [(.aload_n 0, 0, 0, 0, 0), (.getfield 11, 1, 10, 0, 0), (.iload_n 2, 0, 0, 0, 0)] (by decide +kernel) rfl rfl ?_
      refine sS_ial oI rfl (n := 60) (j := (ix (rI μ 48 0 (ix a1)))) (by decide +kernel) rfl rfl rfl (fun _ => ?_)
      refine sIf_le oI (off := 7) (tgt := 47) (by decide +kernel) (by decide) (fun _ => ?_) (fun _ => ?_)
      · refine sBk (lo' := [(2, vi (rI μ 48 0 (ix a1))), (0, vr 2 a0), (1, vi a1)]) (st' := [vi (a1 + 1)]) (μ' := wI μ 23 a0 (ix (rI μ 48 0 (ix a1))) ((rI μ 23 a0 (ix (rI μ 48 0 (ix a1)))) - 1)) (pc' := 50) [(.iload_n 1, 0, 0, 0, 0), (.iconst 1, 0, 0, 1, 0), (.iadd, 0, 0, 0, 0)] (by decide +kernel) rfl rfl ?_
        exact sRi (by decide +kernel) (fun h => by cases h)
      · refine sBk (lo' := [(2, vi (rI μ 48 0 (ix a1))), (0, vr 2 a0), (1, vi a1)]) (st' := [vi ((rI μ 48 0 (ix a1)) + 1)]) (μ' := wI μ 23 a0 (ix (rI μ 48 0 (ix a1))) ((rI μ 23 a0 (ix (rI μ 48 0 (ix a1)))) - 1)) (pc' := 46) [(.iload_n 2, 0, 0, 0, 0), (.iconst 1, 0, 0, 1, 0), (.iadd, 0, 0, 0, 0)] (by decide +kernel) rfl rfl ?_
        exact sRi (by decide +kernel) (fun h => by cases h)
/-! ClockRiver$Life.waits -/
def X1_waits (a0 : Nat) (a1 : Int32) (μ : sM) : Option (Int32 × sM) :=
  if (rR μ 2 a0 8) = 0 then none else
    bI (X4_hasHours ((rR μ 2 a0 8) - 1) a1 μ) fun x2 μ3 =>
      if x2 = 0 then
        some (0, μ3)
      else
        if (rR μ3 2 a0 8) = 0 then none else
          bI (X4_passHours ((rR μ3 2 a0 8) - 1) a1 μ3) fun x5 μ6 =>
            some (1, wI (wI μ6 2 a0 4 ((rI μ3 2 a0 4) + x5)) 2 a0 3 ((rI μ6 2 a0 3) + a1))
theorem tX1_waits (a0 : Nat) (a1 : Int32) (μ : sM) : sMt yX1_waits cX1_waits 2 (some .boolean) 4 [vr 2 a0, vi a1] μ (oI (X1_waits a0 a1 μ)) := by
  refine sMt_of (own := 1) (bl := true) (by decide +kernel) rfl (Nat.le_of_ble_eq_true rfl) (fun r ρ h => ?_) ?_
  · obtain ⟨q, -, hq⟩ := Option.map_eq_some_iff.mp h
    cases hq
    exact Or.inr ⟨rfl, rfl⟩
  · unfold X1_waits
    show sOk 1 cX1_waits 2 4 true 0 [(0, vr 2 a0), (1, vi a1)] [] μ _
    refine sBk (lo' := [(0, vr 2 a0), (1, vi a1)]) (st' := [vr 2 a0]) (μ' := μ) (pc' := 1) [(.aload_n 0, 0, 0, 0, 0)] (by decide +kernel) rfl rfl ?_
    refine sCn oI rfl (fun h1 => ?_)
    refine sGr (idx := 43) (ci := 1) (sl := 8) (n := (rR μ 2 a0 8) - 1) (by decide +kernel) rfl rfl (pr1 h1) ?_
    refine sBk (lo' := [(0, vr 2 a0), (1, vi a1)]) (st' := [vi a1, vr 5 ((rR μ 2 a0 8) - 1)]) (μ' := μ) (pc' := 5) [(.iload_n 1, 0, 0, 0, 0)] (by decide +kernel) rfl rfl ?_
    refine sCvI oI rfl (ci := 4) (q := (5, ((rR μ 2 a0 8) - 1))) (avs := [vi a1]) (rest := []) (tX4_hasHours ((rR μ 2 a0 8) - 1) a1 μ) (by decide) (by decide +kernel) lk_1_132 yv_X4_hasHours rfl (by decide) rfl rfl rfl (Nat.le_of_ble_eq_true rfl) (fun x2 μ3 => ?_)
    refine sIf_ne oI (off := 5) (tgt := 13) (by decide +kernel) (by decide) (fun _ => ?_) (fun _ => ?_)
    · refine sBk (lo' := [(0, vr 2 a0), (1, vi a1)]) (st' := [vr 2 a0, vi (rI μ3 2 a0 4), vr 2 a0]) (μ' := μ3) (pc' := 19) [(.aload_n 0, 0, 0, 0, 0), (.dup, 0, 0, 0, 0), (.getfield 24, 1, 4, 0, 0), (.aload_n 0, 0, 0, 0, 0)] (by decide +kernel) rfl rfl ?_
      refine sCn oI rfl (fun h4 => ?_)
      refine sGr (idx := 43) (ci := 1) (sl := 8) (n := (rR μ3 2 a0 8) - 1) (by decide +kernel) rfl rfl (pr1 h4) ?_
      refine sBk (lo' := [(0, vr 2 a0), (1, vi a1)]) (st' := [vi a1, vr 5 ((rR μ3 2 a0 8) - 1), vi (rI μ3 2 a0 4), vr 2 a0]) (μ' := μ3) (pc' := 23) [(.iload_n 1, 0, 0, 0, 0)] (by decide +kernel) rfl rfl ?_
      refine sCvI oI rfl (ci := 4) (q := (5, ((rR μ3 2 a0 8) - 1))) (avs := [vi a1]) (rest := [vi (rI μ3 2 a0 4), vr 2 a0]) (tX4_passHours ((rR μ3 2 a0 8) - 1) a1 μ3) (by decide) (by decide +kernel) lk_1_135 yv_X4_passHours rfl (by decide) rfl rfl rfl (Nat.le_of_ble_eq_true rfl) (fun x5 μ6 => ?_)
      refine sBk (lo' := [(0, vr 2 a0), (1, vi a1)]) (st' := [vi 1]) (μ' := wI (wI μ6 2 a0 4 ((rI μ3 2 a0 4) + x5)) 2 a0 3 ((rI μ6 2 a0 3) + a1)) (pc' := 41) [(.iadd, 0, 0, 0, 0), (.putfield 24, 1, 4, 0, 0), (.aload_n 0, 0, 0, 0, 0), (.dup, 0, 0, 0, 0), (.getfield 21, 1, 3, 0, 0), (.iload_n 1, 0, 0, 0, 0), (.iadd, 0, 0, 0, 0), (.putfield 21, 1, 3, 0, 0), (.iconst 1, 0, 0, 1, 0)] (by decide +kernel) rfl rfl ?_
      exact sRi (by decide +kernel) (fun _ => Or.inr rfl)
    · refine sBk (lo' := [(0, vr 2 a0), (1, vi a1)]) (st' := [vi 0]) (μ' := μ3) (pc' := 12) [(.iconst 0, 0, 0, 0, 0)] (by decide +kernel) rfl rfl ?_
      exact sRi (by decide +kernel) (fun _ => Or.inl rfl)
/-! ClockRiver$Life.winds -/
def X1_winds (a0 : Nat) (a1 : Int32) (a2 : Int32) (μ : sM) : Option (Int32 × sM) :=
  if (rR μ 2 a0 8) = 0 then none else
    bI (X4_isLawDay ((rR μ 2 a0 8) - 1) μ) fun x2 μ3 =>
      if x2 = 0 then
        if (rR μ3 2 a0 8) = 0 then none else
          bV (X4_letWind ((rR μ3 2 a0 8) - 1) a1 a2 μ3) fun μ6 =>
            some (1, wI μ6 2 a0 5 ((rI μ6 2 a0 5) + 1))
      else
        some (0, μ3)
theorem tX1_winds (a0 : Nat) (a1 : Int32) (a2 : Int32) (μ : sM) : sMt yX1_winds cX1_winds 3 (some .boolean) 3 [vr 2 a0, vi a1, vi a2] μ (oI (X1_winds a0 a1 a2 μ)) := by
  refine sMt_of (own := 1) (bl := true) (by decide +kernel) rfl (Nat.le_of_ble_eq_true rfl) (fun r ρ h => ?_) ?_
  · obtain ⟨q, -, hq⟩ := Option.map_eq_some_iff.mp h
    cases hq
    exact Or.inr ⟨rfl, rfl⟩
  · unfold X1_winds
    show sOk 1 cX1_winds 3 3 true 0 [(0, vr 2 a0), (1, vi a1), (2, vi a2)] [] μ _
    refine sBk (lo' := [(0, vr 2 a0), (1, vi a1), (2, vi a2)]) (st' := [vr 2 a0]) (μ' := μ) (pc' := 1) [(.aload_n 0, 0, 0, 0, 0)] (by decide +kernel) rfl rfl ?_
    refine sCn oI rfl (fun h1 => ?_)
    refine sGr (idx := 43) (ci := 1) (sl := 8) (n := (rR μ 2 a0 8) - 1) (by decide +kernel) rfl rfl (pr1 h1) ?_
    refine sCvI oI rfl (ci := 4) (q := (5, ((rR μ 2 a0 8) - 1))) (avs := []) (rest := []) (tX4_isLawDay ((rR μ 2 a0 8) - 1) μ) (by decide) (by decide +kernel) lk_1_138 yv_X4_isLawDay rfl (by decide) rfl rfl rfl (Nat.le_of_ble_eq_true rfl) (fun x2 μ3 => ?_)
    refine sIf_eq oI (off := 5) (tgt := 12) (by decide +kernel) (by decide) (fun _ => ?_) (fun _ => ?_)
    · refine sBk (lo' := [(0, vr 2 a0), (1, vi a1), (2, vi a2)]) (st' := [vr 2 a0]) (μ' := μ3) (pc' := 13) [(.aload_n 0, 0, 0, 0, 0)] (by decide +kernel) rfl rfl ?_
      refine sCn oI rfl (fun h4 => ?_)
      refine sGr (idx := 43) (ci := 1) (sl := 8) (n := (rR μ3 2 a0 8) - 1) (by decide +kernel) rfl rfl (pr1 h4) ?_
      refine sBk (lo' := [(0, vr 2 a0), (1, vi a1), (2, vi a2)]) (st' := [vi a2, vi a1, vr 5 ((rR μ3 2 a0 8) - 1)]) (μ' := μ3) (pc' := 18) [(.iload_n 1, 0, 0, 0, 0), (.iload_n 2, 0, 0, 0, 0)] (by decide +kernel) rfl rfl ?_
      refine sCvV oI rfl (ci := 4) (q := (5, ((rR μ3 2 a0 8) - 1))) (avs := [vi a1, vi a2]) (rest := []) (tX4_letWind ((rR μ3 2 a0 8) - 1) a1 a2 μ3) (by decide) (by decide +kernel) lk_1_141 yv_X4_letWind rfl (by decide) rfl rfl rfl (Nat.le_of_ble_eq_true rfl) (fun μ6 => ?_)
      refine sBk (lo' := [(0, vr 2 a0), (1, vi a1), (2, vi a2)]) (st' := [vi 1]) (μ' := wI μ6 2 a0 5 ((rI μ6 2 a0 5) + 1)) (pc' := 32) [(.aload_n 0, 0, 0, 0, 0), (.dup, 0, 0, 0, 0), (.getfield 27, 1, 5, 0, 0), (.iconst 1, 0, 0, 1, 0), (.iadd, 0, 0, 0, 0), (.putfield 27, 1, 5, 0, 0), (.iconst 1, 0, 0, 1, 0)] (by decide +kernel) rfl rfl ?_
      exact sRi (by decide +kernel) (fun _ => Or.inr rfl)
    · refine sBk (lo' := [(0, vr 2 a0), (1, vi a1), (2, vi a2)]) (st' := [vi 0]) (μ' := μ3) (pc' := 11) [(.iconst 0, 0, 0, 0, 0)] (by decide +kernel) rfl rfl ?_
      exact sRi (by decide +kernel) (fun _ => Or.inl rfl)
/-! ClockRiver$Life.sets -/
def X1_sets (a0 : Nat) (a1 : Int32) (a2 : Int32) (μ : sM) : Option (Int32 × sM) :=
  if (rR μ 2 a0 8) = 0 then none else
    if inb a1 6 = true then
      if (rI μ 30 ((rR μ 2 a0 8) - 1) (ix a1)) = a2 then
        some (0, μ)
      else
        if (rR μ 2 a0 8) = 0 then none else
          if inb a1 6 = true then
            some (1, wI μ 30 ((rR μ 2 a0 8) - 1) (ix a1) a2)
          else none
    else none
theorem tX1_sets (a0 : Nat) (a1 : Int32) (a2 : Int32) (μ : sM) : sMt yX1_sets cX1_sets 3 (some .boolean) 1 [vr 2 a0, vi a1, vi a2] μ (oI (X1_sets a0 a1 a2 μ)) := by
  refine sMt_of (own := 1) (bl := true) (by decide +kernel) rfl (Nat.le_of_ble_eq_true rfl) (fun r ρ h => ?_) ?_
  · obtain ⟨q, -, hq⟩ := Option.map_eq_some_iff.mp h
    cases hq
    exact Or.inr ⟨rfl, rfl⟩
  · unfold X1_sets
    show sOk 1 cX1_sets 3 1 true 0 [(0, vr 2 a0), (1, vi a1), (2, vi a2)] [] μ _
    refine sBk (lo' := [(0, vr 2 a0), (1, vi a1), (2, vi a2)]) (st' := [vr 2 a0]) (μ' := μ) (pc' := 1) [(.aload_n 0, 0, 0, 0, 0)] (by decide +kernel) rfl rfl ?_
    refine sCn oI rfl (fun h1 => ?_)
    refine sGr (idx := 43) (ci := 1) (sl := 8) (n := (rR μ 2 a0 8) - 1) (by decide +kernel) rfl rfl (pr1 h1) ?_
    refine sBk (lo' := [(0, vr 2 a0), (1, vi a1), (2, vi a2)]) (st' := [vi a1, vr 30 ((rR μ 2 a0 8) - 1)]) (μ' := μ) (pc' := 11) [(.getfield 81, 4, 8, 0, 0), (.getfield 145, 3, 3, 0, 0), (.iload_n 1, 0, 0, 0, 0)] (by decide +kernel) rfl rfl ?_
    refine sS_ial oI rfl (n := 6) (j := (ix a1)) (by decide +kernel) rfl rfl rfl (fun _ => ?_)
    refine sBk (lo' := [(0, vr 2 a0), (1, vi a1), (2, vi a2)]) (st' := [vi a2, vi (rI μ 30 ((rR μ 2 a0 8) - 1) (ix a1))]) (μ' := μ) (pc' := 13) [(.iload_n 2, 0, 0, 0, 0)] (by decide +kernel) rfl rfl ?_
    refine sIc_ne oI (off := 5) (tgt := 18) (by decide +kernel) (by decide) (fun _ => ?_) (fun _ => ?_)
    · refine sBk (lo' := [(0, vr 2 a0), (1, vi a1), (2, vi a2)]) (st' := [vr 2 a0]) (μ' := μ) (pc' := 19) [(.aload_n 0, 0, 0, 0, 0)] (by decide +kernel) rfl rfl ?_
      refine sCn oI rfl (fun h2 => ?_)
      refine sGr (idx := 43) (ci := 1) (sl := 8) (n := (rR μ 2 a0 8) - 1) (by decide +kernel) rfl rfl (pr1 h2) ?_
      refine sBk (lo' := [(0, vr 2 a0), (1, vi a1), (2, vi a2)]) (st' := [vi a2, vi a1, vr 30 ((rR μ 2 a0 8) - 1)]) (μ' := μ) (pc' := 30) [(.getfield 81, 4, 8, 0, 0), (.getfield 145, 3, 3, 0, 0), (.iload_n 1, 0, 0, 0, 0), (.iload_n 2, 0, 0, 0, 0)] (by decide +kernel) rfl rfl ?_
      refine sS_ias oI rfl (n := 6) (j := (ix a1)) (by decide +kernel) rfl rfl rfl (fun _ => ?_)
      refine sBk (lo' := [(0, vr 2 a0), (1, vi a1), (2, vi a2)]) (st' := [vi 1]) (μ' := wI μ 30 ((rR μ 2 a0 8) - 1) (ix a1) a2) (pc' := 32) [(.iconst 1, 0, 0, 1, 0)] (by decide +kernel) rfl rfl ?_
      exact sRi (by decide +kernel) (fun _ => Or.inr rfl)
    · refine sBk (lo' := [(0, vr 2 a0), (1, vi a1), (2, vi a2)]) (st' := [vi 0]) (μ' := μ) (pc' := 17) [(.iconst 0, 0, 0, 0, 0)] (by decide +kernel) rfl rfl ?_
      exact sRi (by decide +kernel) (fun _ => Or.inl rfl)
/-! ClockRiver$Life.turnsTo -/
def X1_turnsTo (a0 : Nat) (a1 : Int32) (μ : sM) : Option (Int32 × sM) :=
  if (rR μ 2 a0 8) = 0 then none else
    if (rI μ 5 ((rR μ 2 a0 8) - 1) 6) = a1 then
      some (0, μ)
    else
      if (rR μ 2 a0 8) = 0 then none else
        if a1 = 0 ∨ a1 = 1 then
          some (1, wI μ 5 ((rR μ 2 a0 8) - 1) 6 a1)
        else none
theorem tX1_turnsTo (a0 : Nat) (a1 : Int32) (μ : sM) : sMt yX1_turnsTo cX1_turnsTo 2 (some .boolean) 1 [vr 2 a0, vi a1] μ (oI (X1_turnsTo a0 a1 μ)) := by
  refine sMt_of (own := 1) (bl := true) (by decide +kernel) rfl (Nat.le_of_ble_eq_true rfl) (fun r ρ h => ?_) ?_
  · obtain ⟨q, -, hq⟩ := Option.map_eq_some_iff.mp h
    cases hq
    exact Or.inr ⟨rfl, rfl⟩
  · unfold X1_turnsTo
    show sOk 1 cX1_turnsTo 2 1 true 0 [(0, vr 2 a0), (1, vi a1)] [] μ _
    refine sBk (lo' := [(0, vr 2 a0), (1, vi a1)]) (st' := [vr 2 a0]) (μ' := μ) (pc' := 1) [(.aload_n 0, 0, 0, 0, 0)] (by decide +kernel) rfl rfl ?_
    refine sCn oI rfl (fun h1 => ?_)
    refine sGr (idx := 43) (ci := 1) (sl := 8) (n := (rR μ 2 a0 8) - 1) (by decide +kernel) rfl rfl (pr1 h1) ?_
    refine sBk (lo' := [(0, vr 2 a0), (1, vi a1)]) (st' := [vi a1, vi (rI μ 5 ((rR μ 2 a0 8) - 1) 6)]) (μ' := μ) (pc' := 8) [(.getfield 106, 4, 6, 0, 0), (.iload_n 1, 0, 0, 0, 0)] (by decide +kernel) rfl rfl ?_
    refine sIc_ne oI (off := 5) (tgt := 13) (by decide +kernel) (by decide) (fun _ => ?_) (fun _ => ?_)
    · refine sBk (lo' := [(0, vr 2 a0), (1, vi a1)]) (st' := [vr 2 a0]) (μ' := μ) (pc' := 14) [(.aload_n 0, 0, 0, 0, 0)] (by decide +kernel) rfl rfl ?_
      refine sCn oI rfl (fun h2 => ?_)
      refine sGr (idx := 43) (ci := 1) (sl := 8) (n := (rR μ 2 a0 8) - 1) (by decide +kernel) rfl rfl (pr1 h2) ?_
      refine sBk (lo' := [(0, vr 2 a0), (1, vi a1)]) (st' := [vi a1, vr 5 ((rR μ 2 a0 8) - 1)]) (μ' := μ) (pc' := 18) [(.iload_n 1, 0, 0, 0, 0)] (by decide +kernel) rfl rfl ?_
      refine sS_pz oI rfl (idx := 106) (ci := 4) (sl := 6) (by decide +kernel) rfl rfl (fun _ => ?_)
      refine sBk (lo' := [(0, vr 2 a0), (1, vi a1)]) (st' := [vi 1]) (μ' := wI μ 5 ((rR μ 2 a0 8) - 1) 6 a1) (pc' := 22) [(.iconst 1, 0, 0, 1, 0)] (by decide +kernel) rfl rfl ?_
      exact sRi (by decide +kernel) (fun _ => Or.inr rfl)
    · refine sBk (lo' := [(0, vr 2 a0), (1, vi a1)]) (st' := [vi 0]) (μ' := μ) (pc' := 12) [(.iconst 0, 0, 0, 0, 0)] (by decide +kernel) rfl rfl ?_
      exact sRi (by decide +kernel) (fun _ => Or.inl rfl)
/-! ClockRiver$Life.drawBy -/
def X1_drawBy (a0 : Nat) (a1 : Int32) (μ : sM) : Option (Int32 × sM) :=
  if a1 ≤ 0 then
    some (0, wI μ 2 a0 7 (irm (((rI μ 2 a0 7) * 2971) + 10799) 65536))
  else
    if a1 = 0 then none else
      some ((irm ((rI (wI μ 2 a0 7 (irm (((rI μ 2 a0 7) * 2971) + 10799) 65536)) 2 a0 7) / 8) a1), wI μ 2 a0 7 (irm (((rI μ 2 a0 7) * 2971) + 10799) 65536))
theorem tX1_drawBy (a0 : Nat) (a1 : Int32) (μ : sM) : sMt yX1_drawBy cX1_drawBy 2 (some .int) 1 [vr 2 a0, vi a1] μ (oI (X1_drawBy a0 a1 μ)) := by
  refine sMt_of (own := 1) (bl := false) (by decide +kernel) rfl (Nat.le_of_ble_eq_true rfl) (fun r ρ h => ?_) ?_
  · obtain ⟨q, -, hq⟩ := Option.map_eq_some_iff.mp h
    cases hq
    exact Or.inl rfl
  · unfold X1_drawBy
    show sOk 1 cX1_drawBy 2 1 false 0 [(0, vr 2 a0), (1, vi a1)] [] μ _
    refine sBk (lo' := [(0, vr 2 a0), (1, vi a1)]) (st' := [vi 65536, vi (((rI μ 2 a0 7) * 2971) + 10799), vr 2 a0]) (μ' := μ) (pc' := 15) [(.aload_n 0, 0, 0, 0, 0), (.aload_n 0, 0, 0, 0, 0), (.getfield 40, 1, 7, 0, 0), (.sipush 2971, 0, 0, 2971, 0), (.imul, 0, 0, 0, 0), (.sipush 10799, 0, 0, 10799, 0), (.iadd, 0, 0, 0, 0), (.ldc 163, 0, 0, 65536, 0)] (by decide +kernel) rfl rfl ?_
    refine sC_irm (by decide +kernel) (by decide +kernel) ?_
    refine sBk (lo' := [(0, vr 2 a0), (1, vi a1)]) (st' := [vi a1]) (μ' := wI μ 2 a0 7 (irm (((rI μ 2 a0 7) * 2971) + 10799) 65536)) (pc' := 20) [(.putfield 40, 1, 7, 0, 0), (.iload_n 1, 0, 0, 0, 0)] (by decide +kernel) rfl rfl ?_
    refine sIf_le oI (off := 15) (tgt := 35) (by decide +kernel) (by decide) (fun _ => ?_) (fun _ => ?_)
    · refine sBk (lo' := [(0, vr 2 a0), (1, vi a1)]) (st' := [vi 0]) (μ' := wI μ 2 a0 7 (irm (((rI μ 2 a0 7) * 2971) + 10799) 65536)) (pc' := 36) [(.iconst 0, 0, 0, 0, 0)] (by decide +kernel) rfl rfl ?_
      exact sRi (by decide +kernel) (fun h => by cases h)
    · refine sBk (lo' := [(0, vr 2 a0), (1, vi a1)]) (st' := [vi 8, vi (rI (wI μ 2 a0 7 (irm (((rI μ 2 a0 7) * 2971) + 10799) 65536)) 2 a0 7)]) (μ' := wI μ 2 a0 7 (irm (((rI μ 2 a0 7) * 2971) + 10799) 65536)) (pc' := 29) [(.aload_n 0, 0, 0, 0, 0), (.getfield 40, 1, 7, 0, 0), (.bipush 8, 0, 0, 8, 0)] (by decide +kernel) rfl rfl ?_
      refine sC_idv (by decide +kernel) (by decide +kernel) ?_
      refine sBk (lo' := [(0, vr 2 a0), (1, vi a1)]) (st' := [vi a1, vi ((rI (wI μ 2 a0 7 (irm (((rI μ 2 a0 7) * 2971) + 10799) 65536)) 2 a0 7) / 8)]) (μ' := wI μ 2 a0 7 (irm (((rI μ 2 a0 7) * 2971) + 10799) 65536)) (pc' := 31) [(.iload_n 1, 0, 0, 0, 0)] (by decide +kernel) rfl rfl ?_
      refine sS_irm oI rfl (by decide +kernel) (fun _ => ?_)
      refine sGt (off := 4) (tgt := 36) (by decide +kernel) (by decide) ?_
      exact sRi (by decide +kernel) (fun h => by cases h)
/-! ClockRiver$Life.doesAny -/
def X1_doesAny_J42 (v0 : Nat) (v1 : Int32) (s0 : Int32) (s1 : Nat) (μ : sM) : Option (Int32 × sM) :=
  if s0 = 0 ∨ s0 = 1 then
    bI (X1_drawBy v0 v1 (wI μ 5 s1 6 s0)) fun x1 μ2 =>
      bI (X1_winds v0 x1 0 μ2) fun x3 μ4 =>
        if x3 = 0 ∨ x3 = 1 then some (x3, μ4) else none
  else none
theorem X1_doesAny_J42_ok (v0 : Nat) (v1 : Int32) (s0 : Int32) (s1 : Nat) (μ : sM) : sOk 1 cX1_doesAny 2 4 true 42 [(0, vr 2 v0), (1, vi v1)] [vi s0, vr 5 s1] μ (oI (X1_doesAny_J42 v0 v1 s0 s1 μ)) := by
  unfold X1_doesAny_J42
  refine sS_pz oI rfl (idx := 106) (ci := 4) (sl := 6) (by decide +kernel) rfl rfl (fun _ => ?_)
  refine sBk (lo' := [(0, vr 2 v0), (1, vi v1)]) (st' := [vi v1, vr 2 v0, vr 2 v0]) (μ' := wI μ 5 s1 6 s0) (pc' := 48) [(.aload_n 0, 0, 0, 0, 0), (.aload_n 0, 0, 0, 0, 0), (.iload_n 1, 0, 0, 0, 0)] (by decide +kernel) rfl rfl ?_
  refine sCvI oI rfl (ci := 1) (q := (2, v0)) (avs := [vi v1]) (rest := [vr 2 v0]) (tX1_drawBy v0 v1 (wI μ 5 s1 6 s0)) (by decide) (by decide +kernel) lk_1_157 yv_X1_drawBy rfl (by decide) rfl rfl rfl (Nat.le_of_ble_eq_true rfl) (fun x1 μ2 => ?_)
  refine sBk (lo' := [(0, vr 2 v0), (1, vi v1)]) (st' := [vi 0, vi x1, vr 2 v0]) (μ' := μ2) (pc' := 52) [(.iconst 0, 0, 0, 0, 0)] (by decide +kernel) rfl rfl ?_
  refine sCvI oI rfl (ci := 1) (q := (2, v0)) (avs := [vi x1, vi 0]) (rest := []) (tX1_winds v0 x1 0 μ2) (by decide) (by decide +kernel) lk_1_115 yv_X1_winds rfl (by decide) rfl rfl rfl (Nat.le_of_ble_eq_true rfl) (fun x3 μ4 => ?_)
  exact sCk oI rfl (fun h => sRi (by decide +kernel) (fun _ => h))
def X1_doesAny (a0 : Nat) (μ : sM) : Option (Int32 × sM) :=
  if (rR μ 2 a0 8) = 0 then none else
    if 0 < (rI μ 11 ((rR μ 2 a0 8) - 1) 0) then
      if (rR μ 2 a0 8) = 0 then none else
        bI (X1_drawBy a0 16 μ) fun x3 μ4 =>
          if (rR μ4 2 a0 8) = 0 then none else
            if (rI μ4 5 ((rR μ4 2 a0 8) - 1) 3) ≤ x3 then
              X1_doesAny_J42 a0 (rI μ 11 ((rR μ 2 a0 8) - 1) 0) 0 ((rR μ 2 a0 8) - 1) μ4
            else
              X1_doesAny_J42 a0 (rI μ 11 ((rR μ 2 a0 8) - 1) 0) 1 ((rR μ 2 a0 8) - 1) μ4
    else
      some (0, μ)
theorem tX1_doesAny (a0 : Nat) (μ : sM) : sMt yX1_doesAny cX1_doesAny 2 (some .boolean) 4 [vr 2 a0] μ (oI (X1_doesAny a0 μ)) := by
  refine sMt_of (own := 1) (bl := true) (by decide +kernel) rfl (Nat.le_of_ble_eq_true rfl) (fun r ρ h => ?_) ?_
  · obtain ⟨q, -, hq⟩ := Option.map_eq_some_iff.mp h
    cases hq
    exact Or.inr ⟨rfl, rfl⟩
  · unfold X1_doesAny
    show sOk 1 cX1_doesAny 2 4 true 0 [(0, vr 2 a0)] [] μ _
    refine sBk (lo' := [(0, vr 2 a0)]) (st' := [vr 2 a0]) (μ' := μ) (pc' := 1) [(.aload_n 0, 0, 0, 0, 0)] (by decide +kernel) rfl rfl ?_
    refine sCn oI rfl (fun h1 => ?_)
    refine sGr (idx := 43) (ci := 1) (sl := 8) (n := (rR μ 2 a0 8) - 1) (by decide +kernel) rfl rfl (pr1 h1) ?_
    refine sBk (lo' := [(1, vi (rI μ 11 ((rR μ 2 a0 8) - 1) 0)), (0, vr 2 a0)]) (st' := [vi (rI μ 11 ((rR μ 2 a0 8) - 1) 0)]) (μ' := μ) (pc' := 12) [(.getfield 148, 4, 10, 0, 0), (.getfield 152, 10, 0, 0, 0), (.istore_n 1, 0, 0, 0, 0), (.iload_n 1, 0, 0, 0, 0)] (by decide +kernel) rfl rfl ?_
    refine sIf_gt oI (off := 5) (tgt := 17) (by decide +kernel) (by decide) (fun _ => ?_) (fun _ => ?_)
    · refine sBk (lo' := [(1, vi (rI μ 11 ((rR μ 2 a0 8) - 1) 0)), (0, vr 2 a0)]) (st' := [vr 2 a0]) (μ' := μ) (pc' := 18) [(.aload_n 0, 0, 0, 0, 0)] (by decide +kernel) rfl rfl ?_
      refine sCn oI rfl (fun h2 => ?_)
      refine sGr (idx := 43) (ci := 1) (sl := 8) (n := (rR μ 2 a0 8) - 1) (by decide +kernel) rfl rfl (pr1 h2) ?_
      refine sBk (lo' := [(1, vi (rI μ 11 ((rR μ 2 a0 8) - 1) 0)), (0, vr 2 a0)]) (st' := [vi 16, vr 2 a0, vr 5 ((rR μ 2 a0 8) - 1)]) (μ' := μ) (pc' := 24) [(.aload_n 0, 0, 0, 0, 0), (.bipush 16, 0, 0, 16, 0)] (by decide +kernel) rfl rfl ?_
      refine sCvI oI rfl (ci := 1) (q := (2, a0)) (avs := [vi 16]) (rest := [vr 5 ((rR μ 2 a0 8) - 1)]) (tX1_drawBy a0 16 μ) (by decide) (by decide +kernel) lk_1_157 yv_X1_drawBy rfl (by decide) rfl rfl rfl (Nat.le_of_ble_eq_true rfl) (fun x3 μ4 => ?_)
      refine sBk (lo' := [(1, vi (rI μ 11 ((rR μ 2 a0 8) - 1) 0)), (0, vr 2 a0)]) (st' := [vr 2 a0, vi x3, vr 5 ((rR μ 2 a0 8) - 1)]) (μ' := μ4) (pc' := 28) [(.aload_n 0, 0, 0, 0, 0)] (by decide +kernel) rfl rfl ?_
      refine sCn oI rfl (fun h5 => ?_)
      refine sGr (idx := 43) (ci := 1) (sl := 8) (n := (rR μ4 2 a0 8) - 1) (by decide +kernel) rfl rfl (pr1 h5) ?_
      refine sBk (lo' := [(1, vi (rI μ 11 ((rR μ 2 a0 8) - 1) 0)), (0, vr 2 a0)]) (st' := [vi (rI μ4 5 ((rR μ4 2 a0 8) - 1) 3), vi x3, vr 5 ((rR μ 2 a0 8) - 1)]) (μ' := μ4) (pc' := 34) [(.getfield 160, 4, 3, 0, 0)] (by decide +kernel) rfl rfl ?_
      refine sIc_ge oI (off := 7) (tgt := 41) (by decide +kernel) (by decide) (fun _ => ?_) (fun _ => ?_)
      · refine sBk (lo' := [(1, vi (rI μ 11 ((rR μ 2 a0 8) - 1) 0)), (0, vr 2 a0)]) (st' := [vi 0, vr 5 ((rR μ 2 a0 8) - 1)]) (μ' := μ4) (pc' := 42) [(.iconst 0, 0, 0, 0, 0)] (by decide +kernel) rfl rfl ?_
        refine sWk (lo' := [(0, vr 2 a0), (1, vi (rI μ 11 ((rR μ 2 a0 8) - 1) 0))]) [1, 0] rfl ?_
        exact X1_doesAny_J42_ok a0 (rI μ 11 ((rR μ 2 a0 8) - 1) 0) 0 ((rR μ 2 a0 8) - 1) μ4
      · refine sBk (lo' := [(1, vi (rI μ 11 ((rR μ 2 a0 8) - 1) 0)), (0, vr 2 a0)]) (st' := [vi 1, vr 5 ((rR μ 2 a0 8) - 1)]) (μ' := μ4) (pc' := 38) [(.iconst 1, 0, 0, 1, 0)] (by decide +kernel) rfl rfl ?_
        refine sGt (off := 4) (tgt := 42) (by decide +kernel) (by decide) ?_
        refine sWk (lo' := [(0, vr 2 a0), (1, vi (rI μ 11 ((rR μ 2 a0 8) - 1) 0))]) [1, 0] rfl ?_
        exact X1_doesAny_J42_ok a0 (rI μ 11 ((rR μ 2 a0 8) - 1) 0) 1 ((rR μ 2 a0 8) - 1) μ4
    · refine sBk (lo' := [(1, vi (rI μ 11 ((rR μ 2 a0 8) - 1) 0)), (0, vr 2 a0)]) (st' := [vi 0]) (μ' := μ) (pc' := 16) [(.iconst 0, 0, 0, 0, 0)] (by decide +kernel) rfl rfl ?_
      exact sRi (by decide +kernel) (fun _ => Or.inl rfl)
/-! ClockRiver$Life.isDone -/
def X1_isDone_J138 (s0 : Int32) (s1 : Int32) (s2 : Nat) (μ : sM) : Option (Int32 × sM) :=
  bI (X1_winds s2 s1 s0 μ) fun x1 μ2 =>
    if x1 = 0 ∨ x1 = 1 then some (x1, μ2) else none
theorem X1_isDone_J138_ok (s0 : Int32) (s1 : Int32) (s2 : Nat) (μ : sM) : sOk 1 cX1_isDone 2 5 true 138 [] [vi s0, vi s1, vr 2 s2] μ (oI (X1_isDone_J138 s0 s1 s2 μ)) := by
  unfold X1_isDone_J138
  refine sCvI oI rfl (ci := 1) (q := (2, s2)) (avs := [vi s1, vi s0]) (rest := []) (tX1_winds s2 s1 s0 μ) (by decide) (by decide +kernel) lk_1_115 yv_X1_winds rfl (by decide) rfl rfl rfl (Nat.le_of_ble_eq_true rfl) (fun x1 μ2 => ?_)
  exact sCk oI rfl (fun h => sRi (by decide +kernel) (fun _ => h))
def X1_isDone (a0 : Nat) (a1 : Int32) (μ : sM) : Option (Int32 × sM) :=
  if (rR μ 2 a0 9) = 1 then
    if inb a1 60 = true then
      if (rI μ 43 0 (ix a1)) = 2 then
        bI (X1_turnsTo a0 1 μ) fun x2 μ3 =>
          if x2 = 0 ∨ x2 = 1 then some (x2, μ3) else none
      else if (rI μ 43 0 (ix a1)) = 6 then
        if (rR μ 2 a0 9) = 1 then
          if inb a1 60 = true then
            if (rR μ 2 a0 9) = 1 then
              if inb a1 60 = true then
                bI (X1_sets a0 (rI μ 44 0 (ix a1)) (rI μ 45 0 (ix a1)) μ) fun x6 μ7 =>
                  if x6 = 0 ∨ x6 = 1 then some (x6, μ7) else none
              else none
            else none
          else none
        else none
      else if (rI μ 43 0 (ix a1)) = 14 then
        if (rR μ 2 a0 9) = 1 then
          if inb a1 60 = true then
            bI (X1_waits a0 (rI μ 45 0 (ix a1)) μ) fun x9 μ10 =>
              if x9 = 0 ∨ x9 = 1 then some (x9, μ10) else none
          else none
        else none
      else if (rI μ 43 0 (ix a1)) = 15 then
        if (rR μ 2 a0 9) = 1 then
          if inb a1 60 = true then
            if (rR μ 2 a0 9) = 1 then
              if inb a1 60 = true then
                if (rI μ 45 0 (ix a1)) = 1 then
                  X1_isDone_J138 1 (rI μ 44 0 (ix a1)) a0 μ
                else
                  X1_isDone_J138 0 (rI μ 44 0 (ix a1)) a0 μ
              else none
            else none
          else none
        else none
      else if (rI μ 43 0 (ix a1)) = 17 then
        if (rR μ 2 a0 8) = 0 then none else
          some (1, wI μ 5 ((rR μ 2 a0 8) - 1) 5 12)
      else if (rI μ 43 0 (ix a1)) = 18 then
        bI (X1_turnsTo a0 0 μ) fun x14 μ15 =>
          if x14 = 0 ∨ x14 = 1 then some (x14, μ15) else none
      else if (rI μ 43 0 (ix a1)) = 19 then
        bI (X1_doesAny a0 μ) fun x16 μ17 =>
          if x16 = 0 ∨ x16 = 1 then some (x16, μ17) else none
      else
        some (1, μ)
    else none
  else none
theorem tX1_isDone (a0 : Nat) (a1 : Int32) (μ : sM) : sMt yX1_isDone cX1_isDone 2 (some .boolean) 5 [vr 2 a0, vi a1] μ (oI (X1_isDone a0 a1 μ)) := by
  refine sMt_of (own := 1) (bl := true) (by decide +kernel) rfl (Nat.le_of_ble_eq_true rfl) (fun r ρ h => ?_) ?_
  · obtain ⟨q, -, hq⟩ := Option.map_eq_some_iff.mp h
    cases hq
    exact Or.inr ⟨rfl, rfl⟩
  · unfold X1_isDone
    show sOk 1 cX1_isDone 2 5 true 0 [(0, vr 2 a0), (1, vi a1)] [] μ _
    refine sBk (lo' := [(0, vr 2 a0), (1, vi a1)]) (st' := [vr 2 a0]) (μ' := μ) (pc' := 1) [(.aload_n 0, 0, 0, 0, 0)] (by decide +kernel) rfl rfl ?_
    refine sCk oI rfl (fun h1 => ?_)
    refine sGr (idx := 47) (ci := 1) (sl := 9) (n := 0) (by decide +kernel) rfl rfl h1 ?_
    refine sBk (lo' := [(0, vr 2 a0), (1, vi a1)]) (st' := [vi a1, vr 43 0]) (μ' := μ) (pc' := 8) [(.getfield 55, 8, 3, 0, 0), (.iload_n 1, 0, 0, 0, 0)] (by decide +kernel) rfl rfl ?_
    refine sS_ial oI rfl (n := 60) (j := (ix a1)) (by decide +kernel) rfl rfl rfl (fun _ => ?_)
    refine sTs (ps := [(2, 176), (6, 153), (14, 96), (15, 110), (17, 142), (18, 182), (19, 188)]) (df := 193) (by decide +kernel) ?_
    refine sSc oI (fun _ => ?_) (fun _ => ?_)
    · refine sBk (lo' := [(0, vr 2 a0), (1, vi a1)]) (st' := [vi 1, vr 2 a0]) (μ' := μ) (pc' := 178) [(.aload_n 0, 0, 0, 0, 0), (.iconst 1, 0, 0, 1, 0)] (by decide +kernel) rfl rfl ?_
      refine sCvI oI rfl (ci := 1) (q := (2, a0)) (avs := [vi 1]) (rest := []) (tX1_turnsTo a0 1 μ) (by decide) (by decide +kernel) lk_1_124 yv_X1_turnsTo rfl (by decide) rfl rfl rfl (Nat.le_of_ble_eq_true rfl) (fun x2 μ3 => ?_)
      exact sCk oI rfl (fun h => sRi (by decide +kernel) (fun _ => h))
    refine sSc oI (fun _ => ?_) (fun _ => ?_)
    · refine sBk (lo' := [(0, vr 2 a0), (1, vi a1)]) (st' := [vr 2 a0, vr 2 a0]) (μ' := μ) (pc' := 155) [(.aload_n 0, 0, 0, 0, 0), (.aload_n 0, 0, 0, 0, 0)] (by decide +kernel) rfl rfl ?_
      refine sCk oI rfl (fun h4 => ?_)
      refine sGr (idx := 47) (ci := 1) (sl := 9) (n := 0) (by decide +kernel) rfl rfl h4 ?_
      refine sBk (lo' := [(0, vr 2 a0), (1, vi a1)]) (st' := [vi a1, vr 44 0, vr 2 a0]) (μ' := μ) (pc' := 162) [(.getfield 91, 8, 4, 0, 0), (.iload_n 1, 0, 0, 0, 0)] (by decide +kernel) rfl rfl ?_
      refine sS_ial oI rfl (n := 60) (j := (ix a1)) (by decide +kernel) rfl rfl rfl (fun _ => ?_)
      refine sBk (lo' := [(0, vr 2 a0), (1, vi a1)]) (st' := [vr 2 a0, vi (rI μ 44 0 (ix a1)), vr 2 a0]) (μ' := μ) (pc' := 164) [(.aload_n 0, 0, 0, 0, 0)] (by decide +kernel) rfl rfl ?_
      refine sCk oI rfl (fun h5 => ?_)
      refine sGr (idx := 47) (ci := 1) (sl := 9) (n := 0) (by decide +kernel) rfl rfl h5 ?_
      refine sBk (lo' := [(0, vr 2 a0), (1, vi a1)]) (st' := [vi a1, vr 45 0, vi (rI μ 44 0 (ix a1)), vr 2 a0]) (μ' := μ) (pc' := 171) [(.getfield 75, 8, 5, 0, 0), (.iload_n 1, 0, 0, 0, 0)] (by decide +kernel) rfl rfl ?_
      refine sS_ial oI rfl (n := 60) (j := (ix a1)) (by decide +kernel) rfl rfl rfl (fun _ => ?_)
      refine sCvI oI rfl (ci := 1) (q := (2, a0)) (avs := [vi (rI μ 44 0 (ix a1)), vi (rI μ 45 0 (ix a1))]) (rest := []) (tX1_sets a0 (rI μ 44 0 (ix a1)) (rI μ 45 0 (ix a1)) μ) (by decide) (by decide +kernel) lk_1_121 yv_X1_sets rfl (by decide) rfl rfl rfl (Nat.le_of_ble_eq_true rfl) (fun x6 μ7 => ?_)
      exact sCk oI rfl (fun h => sRi (by decide +kernel) (fun _ => h))
    refine sSc oI (fun _ => ?_) (fun _ => ?_)
    · refine sBk (lo' := [(0, vr 2 a0), (1, vi a1)]) (st' := [vr 2 a0, vr 2 a0]) (μ' := μ) (pc' := 98) [(.aload_n 0, 0, 0, 0, 0), (.aload_n 0, 0, 0, 0, 0)] (by decide +kernel) rfl rfl ?_
      refine sCk oI rfl (fun h8 => ?_)
      refine sGr (idx := 47) (ci := 1) (sl := 9) (n := 0) (by decide +kernel) rfl rfl h8 ?_
      refine sBk (lo' := [(0, vr 2 a0), (1, vi a1)]) (st' := [vi a1, vr 45 0, vr 2 a0]) (μ' := μ) (pc' := 105) [(.getfield 75, 8, 5, 0, 0), (.iload_n 1, 0, 0, 0, 0)] (by decide +kernel) rfl rfl ?_
      refine sS_ial oI rfl (n := 60) (j := (ix a1)) (by decide +kernel) rfl rfl rfl (fun _ => ?_)
      refine sCvI oI rfl (ci := 1) (q := (2, a0)) (avs := [vi (rI μ 45 0 (ix a1))]) (rest := []) (tX1_waits a0 (rI μ 45 0 (ix a1)) μ) (by decide) (by decide +kernel) lk_1_112 yv_X1_waits rfl (by decide) rfl rfl rfl (Nat.le_of_ble_eq_true rfl) (fun x9 μ10 => ?_)
      exact sCk oI rfl (fun h => sRi (by decide +kernel) (fun _ => h))
    refine sSc oI (fun _ => ?_) (fun _ => ?_)
    · refine sBk (lo' := [(0, vr 2 a0), (1, vi a1)]) (st' := [vr 2 a0, vr 2 a0]) (μ' := μ) (pc' := 112) [(.aload_n 0, 0, 0, 0, 0), (.aload_n 0, 0, 0, 0, 0)] (by decide +kernel) rfl rfl ?_
      refine sCk oI rfl (fun h11 => ?_)
      refine sGr (idx := 47) (ci := 1) (sl := 9) (n := 0) (by decide +kernel) rfl rfl h11 ?_
      refine sBk (lo' := [(0, vr 2 a0), (1, vi a1)]) (st' := [vi a1, vr 44 0, vr 2 a0]) (μ' := μ) (pc' := 119) [(.getfield 91, 8, 4, 0, 0), (.iload_n 1, 0, 0, 0, 0)] (by decide +kernel) rfl rfl ?_
      refine sS_ial oI rfl (n := 60) (j := (ix a1)) (by decide +kernel) rfl rfl rfl (fun _ => ?_)
      refine sBk (lo' := [(0, vr 2 a0), (1, vi a1)]) (st' := [vr 2 a0, vi (rI μ 44 0 (ix a1)), vr 2 a0]) (μ' := μ) (pc' := 121) [(.aload_n 0, 0, 0, 0, 0)] (by decide +kernel) rfl rfl ?_
      refine sCk oI rfl (fun h12 => ?_)
      refine sGr (idx := 47) (ci := 1) (sl := 9) (n := 0) (by decide +kernel) rfl rfl h12 ?_
      refine sBk (lo' := [(0, vr 2 a0), (1, vi a1)]) (st' := [vi a1, vr 45 0, vi (rI μ 44 0 (ix a1)), vr 2 a0]) (μ' := μ) (pc' := 128) [(.getfield 75, 8, 5, 0, 0), (.iload_n 1, 0, 0, 0, 0)] (by decide +kernel) rfl rfl ?_
      refine sS_ial oI rfl (n := 60) (j := (ix a1)) (by decide +kernel) rfl rfl rfl (fun _ => ?_)
      refine sBk (lo' := [(0, vr 2 a0), (1, vi a1)]) (st' := [vi 1, vi (rI μ 45 0 (ix a1)), vi (rI μ 44 0 (ix a1)), vr 2 a0]) (μ' := μ) (pc' := 130) [(.iconst 1, 0, 0, 1, 0)] (by decide +kernel) rfl rfl ?_
      refine sIc_ne oI (off := 7) (tgt := 137) (by decide +kernel) (by decide) (fun _ => ?_) (fun _ => ?_)
      · refine sBk (lo' := [(0, vr 2 a0), (1, vi a1)]) (st' := [vi 0, vi (rI μ 44 0 (ix a1)), vr 2 a0]) (μ' := μ) (pc' := 138) [(.iconst 0, 0, 0, 0, 0)] (by decide +kernel) rfl rfl ?_
        refine sWk (lo' := []) [] rfl ?_
        exact X1_isDone_J138_ok 0 (rI μ 44 0 (ix a1)) a0 μ
      · refine sBk (lo' := [(0, vr 2 a0), (1, vi a1)]) (st' := [vi 1, vi (rI μ 44 0 (ix a1)), vr 2 a0]) (μ' := μ) (pc' := 134) [(.iconst 1, 0, 0, 1, 0)] (by decide +kernel) rfl rfl ?_
        refine sGt (off := 4) (tgt := 138) (by decide +kernel) (by decide) ?_
        refine sWk (lo' := []) [] rfl ?_
        exact X1_isDone_J138_ok 1 (rI μ 44 0 (ix a1)) a0 μ
    refine sSc oI (fun _ => ?_) (fun _ => ?_)
    · refine sBk (lo' := [(0, vr 2 a0), (1, vi a1)]) (st' := [vr 2 a0]) (μ' := μ) (pc' := 143) [(.aload_n 0, 0, 0, 0, 0)] (by decide +kernel) rfl rfl ?_
      refine sCn oI rfl (fun h13 => ?_)
      refine sGr (idx := 43) (ci := 1) (sl := 8) (n := (rR μ 2 a0 8) - 1) (by decide +kernel) rfl rfl (pr1 h13) ?_
      refine sBk (lo' := [(0, vr 2 a0), (1, vi a1)]) (st' := [vi 1]) (μ' := wI μ 5 ((rR μ 2 a0 8) - 1) 5 12) (pc' := 152) [(.bipush 12, 0, 0, 12, 0), (.putfield 118, 4, 5, 0, 0), (.iconst 1, 0, 0, 1, 0)] (by decide +kernel) rfl rfl ?_
      exact sRi (by decide +kernel) (fun _ => Or.inr rfl)
    refine sSc oI (fun _ => ?_) (fun _ => ?_)
    · refine sBk (lo' := [(0, vr 2 a0), (1, vi a1)]) (st' := [vi 0, vr 2 a0]) (μ' := μ) (pc' := 184) [(.aload_n 0, 0, 0, 0, 0), (.iconst 0, 0, 0, 0, 0)] (by decide +kernel) rfl rfl ?_
      refine sCvI oI rfl (ci := 1) (q := (2, a0)) (avs := [vi 0]) (rest := []) (tX1_turnsTo a0 0 μ) (by decide) (by decide +kernel) lk_1_124 yv_X1_turnsTo rfl (by decide) rfl rfl rfl (Nat.le_of_ble_eq_true rfl) (fun x14 μ15 => ?_)
      exact sCk oI rfl (fun h => sRi (by decide +kernel) (fun _ => h))
    refine sSc oI (fun _ => ?_) (fun _ => ?_)
    · refine sBk (lo' := [(0, vr 2 a0), (1, vi a1)]) (st' := [vr 2 a0]) (μ' := μ) (pc' := 189) [(.aload_n 0, 0, 0, 0, 0)] (by decide +kernel) rfl rfl ?_
      refine sCvI oI rfl (ci := 1) (q := (2, a0)) (avs := []) (rest := []) (tX1_doesAny a0 μ) (by decide) (by decide +kernel) lk_1_128 yv_X1_doesAny rfl (by decide) rfl rfl rfl (Nat.le_of_ble_eq_true rfl) (fun x16 μ17 => ?_)
      exact sCk oI rfl (fun h => sRi (by decide +kernel) (fun _ => h))
    refine sSd ?_
    refine sBk (lo' := [(0, vr 2 a0), (1, vi a1)]) (st' := [vi 1]) (μ' := μ) (pc' := 194) [(.iconst 1, 0, 0, 1, 0)] (by decide +kernel) rfl rfl ?_
    exact sRi (by decide +kernel) (fun _ => Or.inr rfl)
/-! ClockRiver$Life.compares -/
def X1_compares (a0 : Nat) (a1 : Int32) (a2 : Int32) (μ : sM) : Option (Int32 × sM) :=
  if (rR μ 2 a0 9) = 1 then
    if inb a2 60 = true then
      if (rI μ 47 0 (ix a2)) = 60 then
        if (rR μ 2 a0 9) = 1 then
          if inb a2 60 = true then
            if (rI μ 45 0 (ix a2)) ≤ a1 then
              some (0, μ)
            else
              some (1, μ)
          else none
        else none
      else if (rI μ 47 0 (ix a2)) = 62 then
        if (rR μ 2 a0 9) = 1 then
          if inb a2 60 = true then
            if a1 ≤ (rI μ 45 0 (ix a2)) then
              some (0, μ)
            else
              some (1, μ)
          else none
        else none
      else
        if (rR μ 2 a0 9) = 1 then
          if inb a2 60 = true then
            if a1 = (rI μ 45 0 (ix a2)) then
              some (1, μ)
            else
              some (0, μ)
          else none
        else none
    else none
  else none
theorem tX1_compares (a0 : Nat) (a1 : Int32) (a2 : Int32) (μ : sM) : sMt yX1_compares cX1_compares 3 (some .boolean) 1 [vr 2 a0, vi a1, vi a2] μ (oI (X1_compares a0 a1 a2 μ)) := by
  refine sMt_of (own := 1) (bl := true) (by decide +kernel) rfl (Nat.le_of_ble_eq_true rfl) (fun r ρ h => ?_) ?_
  · obtain ⟨q, -, hq⟩ := Option.map_eq_some_iff.mp h
    cases hq
    exact Or.inr ⟨rfl, rfl⟩
  · unfold X1_compares
    show sOk 1 cX1_compares 3 1 true 0 [(0, vr 2 a0), (1, vi a1), (2, vi a2)] [] μ _
    refine sBk (lo' := [(0, vr 2 a0), (1, vi a1), (2, vi a2)]) (st' := [vr 2 a0]) (μ' := μ) (pc' := 1) [(.aload_n 0, 0, 0, 0, 0)] (by decide +kernel) rfl rfl ?_
    refine sCk oI rfl (fun h1 => ?_)
    refine sGr (idx := 47) (ci := 1) (sl := 9) (n := 0) (by decide +kernel) rfl rfl h1 ?_
    refine sBk (lo' := [(0, vr 2 a0), (1, vi a1), (2, vi a2)]) (st' := [vi a2, vr 47 0]) (μ' := μ) (pc' := 8) [(.getfield 109, 8, 7, 0, 0), (.iload_n 2, 0, 0, 0, 0)] (by decide +kernel) rfl rfl ?_
    refine sS_ial oI rfl (n := 60) (j := (ix a2)) (by decide +kernel) rfl rfl rfl (fun _ => ?_)
    refine sLu (ps := [(60, 36), (62, 55)]) (df := 74) (by decide +kernel) ?_
    refine sSc oI (fun _ => ?_) (fun _ => ?_)
    · refine sBk (lo' := [(0, vr 2 a0), (1, vi a1), (2, vi a2)]) (st' := [vr 2 a0, vi a1]) (μ' := μ) (pc' := 38) [(.iload_n 1, 0, 0, 0, 0), (.aload_n 0, 0, 0, 0, 0)] (by decide +kernel) rfl rfl ?_
      refine sCk oI rfl (fun h2 => ?_)
      refine sGr (idx := 47) (ci := 1) (sl := 9) (n := 0) (by decide +kernel) rfl rfl h2 ?_
      refine sBk (lo' := [(0, vr 2 a0), (1, vi a1), (2, vi a2)]) (st' := [vi a2, vr 45 0, vi a1]) (μ' := μ) (pc' := 45) [(.getfield 75, 8, 5, 0, 0), (.iload_n 2, 0, 0, 0, 0)] (by decide +kernel) rfl rfl ?_
      refine sS_ial oI rfl (n := 60) (j := (ix a2)) (by decide +kernel) rfl rfl rfl (fun _ => ?_)
      refine sIc_ge oI (off := 7) (tgt := 53) (by decide +kernel) (by decide) (fun _ => ?_) (fun _ => ?_)
      · refine sBk (lo' := [(0, vr 2 a0), (1, vi a1), (2, vi a2)]) (st' := [vi 0]) (μ' := μ) (pc' := 54) [(.iconst 0, 0, 0, 0, 0)] (by decide +kernel) rfl rfl ?_
        exact sRi (by decide +kernel) (fun _ => Or.inl rfl)
      · refine sBk (lo' := [(0, vr 2 a0), (1, vi a1), (2, vi a2)]) (st' := [vi 1]) (μ' := μ) (pc' := 50) [(.iconst 1, 0, 0, 1, 0)] (by decide +kernel) rfl rfl ?_
        refine sGt (off := 4) (tgt := 54) (by decide +kernel) (by decide) ?_
        exact sRi (by decide +kernel) (fun _ => Or.inr rfl)
    refine sSc oI (fun _ => ?_) (fun _ => ?_)
    · refine sBk (lo' := [(0, vr 2 a0), (1, vi a1), (2, vi a2)]) (st' := [vr 2 a0, vi a1]) (μ' := μ) (pc' := 57) [(.iload_n 1, 0, 0, 0, 0), (.aload_n 0, 0, 0, 0, 0)] (by decide +kernel) rfl rfl ?_
      refine sCk oI rfl (fun h3 => ?_)
      refine sGr (idx := 47) (ci := 1) (sl := 9) (n := 0) (by decide +kernel) rfl rfl h3 ?_
      refine sBk (lo' := [(0, vr 2 a0), (1, vi a1), (2, vi a2)]) (st' := [vi a2, vr 45 0, vi a1]) (μ' := μ) (pc' := 64) [(.getfield 75, 8, 5, 0, 0), (.iload_n 2, 0, 0, 0, 0)] (by decide +kernel) rfl rfl ?_
      refine sS_ial oI rfl (n := 60) (j := (ix a2)) (by decide +kernel) rfl rfl rfl (fun _ => ?_)
      refine sIc_le oI (off := 7) (tgt := 72) (by decide +kernel) (by decide) (fun _ => ?_) (fun _ => ?_)
      · refine sBk (lo' := [(0, vr 2 a0), (1, vi a1), (2, vi a2)]) (st' := [vi 0]) (μ' := μ) (pc' := 73) [(.iconst 0, 0, 0, 0, 0)] (by decide +kernel) rfl rfl ?_
        exact sRi (by decide +kernel) (fun _ => Or.inl rfl)
      · refine sBk (lo' := [(0, vr 2 a0), (1, vi a1), (2, vi a2)]) (st' := [vi 1]) (μ' := μ) (pc' := 69) [(.iconst 1, 0, 0, 1, 0)] (by decide +kernel) rfl rfl ?_
        refine sGt (off := 4) (tgt := 73) (by decide +kernel) (by decide) ?_
        exact sRi (by decide +kernel) (fun _ => Or.inr rfl)
    refine sSd ?_
    refine sBk (lo' := [(0, vr 2 a0), (1, vi a1), (2, vi a2)]) (st' := [vr 2 a0, vi a1]) (μ' := μ) (pc' := 76) [(.iload_n 1, 0, 0, 0, 0), (.aload_n 0, 0, 0, 0, 0)] (by decide +kernel) rfl rfl ?_
    refine sCk oI rfl (fun h4 => ?_)
    refine sGr (idx := 47) (ci := 1) (sl := 9) (n := 0) (by decide +kernel) rfl rfl h4 ?_
    refine sBk (lo' := [(0, vr 2 a0), (1, vi a1), (2, vi a2)]) (st' := [vi a2, vr 45 0, vi a1]) (μ' := μ) (pc' := 83) [(.getfield 75, 8, 5, 0, 0), (.iload_n 2, 0, 0, 0, 0)] (by decide +kernel) rfl rfl ?_
    refine sS_ial oI rfl (n := 60) (j := (ix a2)) (by decide +kernel) rfl rfl rfl (fun _ => ?_)
    refine sIc_ne oI (off := 7) (tgt := 91) (by decide +kernel) (by decide) (fun _ => ?_) (fun _ => ?_)
    · refine sBk (lo' := [(0, vr 2 a0), (1, vi a1), (2, vi a2)]) (st' := [vi 0]) (μ' := μ) (pc' := 92) [(.iconst 0, 0, 0, 0, 0)] (by decide +kernel) rfl rfl ?_
      exact sRi (by decide +kernel) (fun _ => Or.inl rfl)
    · refine sBk (lo' := [(0, vr 2 a0), (1, vi a1), (2, vi a2)]) (st' := [vi 1]) (μ' := μ) (pc' := 88) [(.iconst 1, 0, 0, 1, 0)] (by decide +kernel) rfl rfl ?_
      refine sGt (off := 4) (tgt := 92) (by decide +kernel) (by decide) ?_
      exact sRi (by decide +kernel) (fun _ => Or.inr rfl)
/-! ClockRiver$Life.holds -/
def X1_holds (a0 : Nat) (a1 : Int32) (μ : sM) : Option (Int32 × sM) :=
  if (rR μ 2 a0 9) = 1 then
    if inb a1 60 = true then
      if (rI μ 46 0 (ix a1)) = 21 then
        if (rR μ 2 a0 8) = 0 then none else
          if (rR μ 2 a0 9) = 1 then
            if inb a1 60 = true then
              if inb (rI μ 44 0 (ix a1)) 6 = true then
                bI (X1_compares a0 (rI μ 31 ((rR μ 2 a0 8) - 1) (ix (rI μ 44 0 (ix a1)))) a1 μ) fun x4 μ5 =>
                  if x4 = 0 ∨ x4 = 1 then some (x4, μ5) else none
              else none
            else none
          else none
      else if (rI μ 46 0 (ix a1)) = 22 then
        if (rR μ 2 a0 8) = 0 then none else
          if (rR μ 2 a0 9) = 1 then
            if inb a1 60 = true then
              if inb (rI μ 44 0 (ix a1)) 6 = true then
                bI (X1_compares a0 (rI μ 27 ((rR μ 2 a0 8) - 1) (ix (rI μ 44 0 (ix a1)))) a1 μ) fun x8 μ9 =>
                  if x8 = 0 ∨ x8 = 1 then some (x8, μ9) else none
              else none
            else none
          else none
      else
        if (rR μ 2 a0 8) = 0 then none else
          if (rI μ 5 ((rR μ 2 a0 8) - 1) 6) = 0 ∨ (rI μ 5 ((rR μ 2 a0 8) - 1) 6) = 1 then some ((rI μ 5 ((rR μ 2 a0 8) - 1) 6), μ) else none
    else none
  else none
theorem tX1_holds (a0 : Nat) (a1 : Int32) (μ : sM) : sMt yX1_holds cX1_holds 2 (some .boolean) 2 [vr 2 a0, vi a1] μ (oI (X1_holds a0 a1 μ)) := by
  refine sMt_of (own := 1) (bl := true) (by decide +kernel) rfl (Nat.le_of_ble_eq_true rfl) (fun r ρ h => ?_) ?_
  · obtain ⟨q, -, hq⟩ := Option.map_eq_some_iff.mp h
    cases hq
    exact Or.inr ⟨rfl, rfl⟩
  · unfold X1_holds
    show sOk 1 cX1_holds 2 2 true 0 [(0, vr 2 a0), (1, vi a1)] [] μ _
    refine sBk (lo' := [(0, vr 2 a0), (1, vi a1)]) (st' := [vr 2 a0]) (μ' := μ) (pc' := 1) [(.aload_n 0, 0, 0, 0, 0)] (by decide +kernel) rfl rfl ?_
    refine sCk oI rfl (fun h1 => ?_)
    refine sGr (idx := 47) (ci := 1) (sl := 9) (n := 0) (by decide +kernel) rfl rfl h1 ?_
    refine sBk (lo' := [(0, vr 2 a0), (1, vi a1)]) (st' := [vi a1, vr 46 0]) (μ' := μ) (pc' := 8) [(.getfield 78, 8, 6, 0, 0), (.iload_n 1, 0, 0, 0, 0)] (by decide +kernel) rfl rfl ?_
    refine sS_ial oI rfl (n := 60) (j := (ix a1)) (by decide +kernel) rfl rfl rfl (fun _ => ?_)
    refine sLu (ps := [(21, 36), (22, 62)]) (df := 88) (by decide +kernel) ?_
    refine sSc oI (fun _ => ?_) (fun _ => ?_)
    · refine sBk (lo' := [(0, vr 2 a0), (1, vi a1)]) (st' := [vr 2 a0, vr 2 a0]) (μ' := μ) (pc' := 38) [(.aload_n 0, 0, 0, 0, 0), (.aload_n 0, 0, 0, 0, 0)] (by decide +kernel) rfl rfl ?_
      refine sCn oI rfl (fun h2 => ?_)
      refine sGr (idx := 43) (ci := 1) (sl := 8) (n := (rR μ 2 a0 8) - 1) (by decide +kernel) rfl rfl (pr1 h2) ?_
      refine sBk (lo' := [(0, vr 2 a0), (1, vi a1)]) (st' := [vr 2 a0, vr 31 ((rR μ 2 a0 8) - 1), vr 2 a0]) (μ' := μ) (pc' := 48) [(.getfield 81, 4, 8, 0, 0), (.getfield 87, 3, 4, 0, 0), (.aload_n 0, 0, 0, 0, 0)] (by decide +kernel) rfl rfl ?_
      refine sCk oI rfl (fun h3 => ?_)
      refine sGr (idx := 47) (ci := 1) (sl := 9) (n := 0) (by decide +kernel) rfl rfl h3 ?_
      refine sBk (lo' := [(0, vr 2 a0), (1, vi a1)]) (st' := [vi a1, vr 44 0, vr 31 ((rR μ 2 a0 8) - 1), vr 2 a0]) (μ' := μ) (pc' := 55) [(.getfield 91, 8, 4, 0, 0), (.iload_n 1, 0, 0, 0, 0)] (by decide +kernel) rfl rfl ?_
      refine sS_ial oI rfl (n := 60) (j := (ix a1)) (by decide +kernel) rfl rfl rfl (fun _ => ?_)
      refine sS_ial oI rfl (n := 6) (j := (ix (rI μ 44 0 (ix a1)))) (by decide +kernel) rfl rfl rfl (fun _ => ?_)
      refine sBk (lo' := [(0, vr 2 a0), (1, vi a1)]) (st' := [vi a1, vi (rI μ 31 ((rR μ 2 a0 8) - 1) (ix (rI μ 44 0 (ix a1)))), vr 2 a0]) (μ' := μ) (pc' := 58) [(.iload_n 1, 0, 0, 0, 0)] (by decide +kernel) rfl rfl ?_
      refine sCvI oI rfl (ci := 1) (q := (2, a0)) (avs := [vi (rI μ 31 ((rR μ 2 a0 8) - 1) (ix (rI μ 44 0 (ix a1)))), vi a1]) (rest := []) (tX1_compares a0 (rI μ 31 ((rR μ 2 a0 8) - 1) (ix (rI μ 44 0 (ix a1)))) a1 μ) (by decide) (by decide +kernel) lk_1_94 yv_X1_compares rfl (by decide) rfl rfl rfl (Nat.le_of_ble_eq_true rfl) (fun x4 μ5 => ?_)
      exact sCk oI rfl (fun h => sRi (by decide +kernel) (fun _ => h))
    refine sSc oI (fun _ => ?_) (fun _ => ?_)
    · refine sBk (lo' := [(0, vr 2 a0), (1, vi a1)]) (st' := [vr 2 a0, vr 2 a0]) (μ' := μ) (pc' := 64) [(.aload_n 0, 0, 0, 0, 0), (.aload_n 0, 0, 0, 0, 0)] (by decide +kernel) rfl rfl ?_
      refine sCn oI rfl (fun h6 => ?_)
      refine sGr (idx := 43) (ci := 1) (sl := 8) (n := (rR μ 2 a0 8) - 1) (by decide +kernel) rfl rfl (pr1 h6) ?_
      refine sBk (lo' := [(0, vr 2 a0), (1, vi a1)]) (st' := [vr 2 a0, vr 27 ((rR μ 2 a0 8) - 1), vr 2 a0]) (μ' := μ) (pc' := 74) [(.getfield 98, 4, 9, 0, 0), (.getfield 102, 2, 4, 0, 0), (.aload_n 0, 0, 0, 0, 0)] (by decide +kernel) rfl rfl ?_
      refine sCk oI rfl (fun h7 => ?_)
      refine sGr (idx := 47) (ci := 1) (sl := 9) (n := 0) (by decide +kernel) rfl rfl h7 ?_
      refine sBk (lo' := [(0, vr 2 a0), (1, vi a1)]) (st' := [vi a1, vr 44 0, vr 27 ((rR μ 2 a0 8) - 1), vr 2 a0]) (μ' := μ) (pc' := 81) [(.getfield 91, 8, 4, 0, 0), (.iload_n 1, 0, 0, 0, 0)] (by decide +kernel) rfl rfl ?_
      refine sS_ial oI rfl (n := 60) (j := (ix a1)) (by decide +kernel) rfl rfl rfl (fun _ => ?_)
      refine sS_ial oI rfl (n := 6) (j := (ix (rI μ 44 0 (ix a1)))) (by decide +kernel) rfl rfl rfl (fun _ => ?_)
      refine sBk (lo' := [(0, vr 2 a0), (1, vi a1)]) (st' := [vi a1, vi (rI μ 27 ((rR μ 2 a0 8) - 1) (ix (rI μ 44 0 (ix a1)))), vr 2 a0]) (μ' := μ) (pc' := 84) [(.iload_n 1, 0, 0, 0, 0)] (by decide +kernel) rfl rfl ?_
      refine sCvI oI rfl (ci := 1) (q := (2, a0)) (avs := [vi (rI μ 27 ((rR μ 2 a0 8) - 1) (ix (rI μ 44 0 (ix a1)))), vi a1]) (rest := []) (tX1_compares a0 (rI μ 27 ((rR μ 2 a0 8) - 1) (ix (rI μ 44 0 (ix a1)))) a1 μ) (by decide) (by decide +kernel) lk_1_94 yv_X1_compares rfl (by decide) rfl rfl rfl (Nat.le_of_ble_eq_true rfl) (fun x8 μ9 => ?_)
      exact sCk oI rfl (fun h => sRi (by decide +kernel) (fun _ => h))
    refine sSd ?_
    refine sBk (lo' := [(0, vr 2 a0), (1, vi a1)]) (st' := [vr 2 a0]) (μ' := μ) (pc' := 89) [(.aload_n 0, 0, 0, 0, 0)] (by decide +kernel) rfl rfl ?_
    refine sCn oI rfl (fun h10 => ?_)
    refine sGr (idx := 43) (ci := 1) (sl := 8) (n := (rR μ 2 a0 8) - 1) (by decide +kernel) rfl rfl (pr1 h10) ?_
    refine sBk (lo' := [(0, vr 2 a0), (1, vi a1)]) (st' := [vi (rI μ 5 ((rR μ 2 a0 8) - 1) 6)]) (μ' := μ) (pc' := 95) [(.getfield 106, 4, 6, 0, 0)] (by decide +kernel) rfl rfl ?_
    exact sCk oI rfl (fun h => sRi (by decide +kernel) (fun _ => h))
/-! ClockRiver$Life.rowBehindStep -/
def X1_rowBehindStep (a0 : Nat) (a1 : Int32) (μ : sM) : Option (Int32 × sM) :=
  if (rR μ 2 a0 9) = 1 then
    if inb a1 60 = true then
      if (rI μ 43 0 (ix a1)) = 20 then
        bI (X1_holds a0 a1 μ) fun x2 μ3 =>
          if x2 = 0 then
            if (rR μ3 2 a0 9) = 1 then
              if inb a1 60 = true then
                some ((rI μ3 48 0 (ix a1)), μ3)
              else none
            else none
          else
            some ((a1 + 1), μ3)
      else if (rI μ 43 0 (ix a1)) = 24 then
        if (rR μ 2 a0 9) = 1 then
          if inb a1 60 = true then
            if inb a1 60 = true then
              some ((a1 + 1), wI μ 23 a0 (ix a1) (rI μ 45 0 (ix a1)))
            else none
          else none
        else none
      else if (rI μ 43 0 (ix a1)) = 26 then
        if (rR μ 2 a0 9) = 1 then
          some ((rI μ 9 0 2), μ)
        else none
      else
        some ((a1 + 1), μ)
    else none
  else none
theorem tX1_rowBehindStep (a0 : Nat) (a1 : Int32) (μ : sM) : sMt yX1_rowBehindStep cX1_rowBehindStep 2 (some .int) 3 [vr 2 a0, vi a1] μ (oI (X1_rowBehindStep a0 a1 μ)) := by
  refine sMt_of (own := 1) (bl := false) (by decide +kernel) rfl (Nat.le_of_ble_eq_true rfl) (fun r ρ h => ?_) ?_
  · obtain ⟨q, -, hq⟩ := Option.map_eq_some_iff.mp h
    cases hq
    exact Or.inl rfl
  · unfold X1_rowBehindStep
    show sOk 1 cX1_rowBehindStep 2 3 false 0 [(0, vr 2 a0), (1, vi a1)] [] μ _
    refine sBk (lo' := [(0, vr 2 a0), (1, vi a1)]) (st' := [vr 2 a0]) (μ' := μ) (pc' := 1) [(.aload_n 0, 0, 0, 0, 0)] (by decide +kernel) rfl rfl ?_
    refine sCk oI rfl (fun h1 => ?_)
    refine sGr (idx := 47) (ci := 1) (sl := 9) (n := 0) (by decide +kernel) rfl rfl h1 ?_
    refine sBk (lo' := [(0, vr 2 a0), (1, vi a1)]) (st' := [vi a1, vr 43 0]) (μ' := μ) (pc' := 8) [(.getfield 55, 8, 3, 0, 0), (.iload_n 1, 0, 0, 0, 0)] (by decide +kernel) rfl rfl ?_
    refine sS_ial oI rfl (n := 60) (j := (ix a1)) (by decide +kernel) rfl rfl rfl (fun _ => ?_)
    refine sLu (ps := [(20, 44), (24, 68), (26, 87)]) (df := 95) (by decide +kernel) ?_
    refine sSc oI (fun _ => ?_) (fun _ => ?_)
    · refine sBk (lo' := [(0, vr 2 a0), (1, vi a1)]) (st' := [vi a1, vr 2 a0]) (μ' := μ) (pc' := 46) [(.aload_n 0, 0, 0, 0, 0), (.iload_n 1, 0, 0, 0, 0)] (by decide +kernel) rfl rfl ?_
      refine sCvI oI rfl (ci := 1) (q := (2, a0)) (avs := [vi a1]) (rest := []) (tX1_holds a0 a1 μ) (by decide) (by decide +kernel) lk_1_72 yv_X1_holds rfl (by decide) rfl rfl rfl (Nat.le_of_ble_eq_true rfl) (fun x2 μ3 => ?_)
      refine sIf_eq oI (off := 9) (tgt := 58) (by decide +kernel) (by decide) (fun _ => ?_) (fun _ => ?_)
      · refine sBk (lo' := [(0, vr 2 a0), (1, vi a1)]) (st' := [vr 2 a0]) (μ' := μ3) (pc' := 59) [(.aload_n 0, 0, 0, 0, 0)] (by decide +kernel) rfl rfl ?_
        refine sCk oI rfl (fun h4 => ?_)
        refine sGr (idx := 47) (ci := 1) (sl := 9) (n := 0) (by decide +kernel) rfl rfl h4 ?_
        refine sBk (lo' := [(0, vr 2 a0), (1, vi a1)]) (st' := [vi a1, vr 48 0]) (μ' := μ3) (pc' := 66) [(.getfield 69, 8, 8, 0, 0), (.iload_n 1, 0, 0, 0, 0)] (by decide +kernel) rfl rfl ?_
        refine sS_ial oI rfl (n := 60) (j := (ix a1)) (by decide +kernel) rfl rfl rfl (fun _ => ?_)
        exact sRi (by decide +kernel) (fun h => by cases h)
      · refine sBk (lo' := [(0, vr 2 a0), (1, vi a1)]) (st' := [vi (a1 + 1)]) (μ' := μ3) (pc' := 55) [(.iload_n 1, 0, 0, 0, 0), (.iconst 1, 0, 0, 1, 0), (.iadd, 0, 0, 0, 0)] (by decide +kernel) rfl rfl ?_
        refine sGt (off := 12) (tgt := 67) (by decide +kernel) (by decide) ?_
        exact sRi (by decide +kernel) (fun h => by cases h)
    refine sSc oI (fun _ => ?_) (fun _ => ?_)
    · refine sBk (lo' := [(0, vr 2 a0), (1, vi a1)]) (st' := [vr 2 a0, vi a1, vr 23 a0]) (μ' := μ) (pc' := 74) [(.aload_n 0, 0, 0, 0, 0), (.getfield 11, 1, 10, 0, 0), (.iload_n 1, 0, 0, 0, 0), (.aload_n 0, 0, 0, 0, 0)] (by decide +kernel) rfl rfl ?_
      refine sCk oI rfl (fun h5 => ?_)
      refine sGr (idx := 47) (ci := 1) (sl := 9) (n := 0) (by decide +kernel) rfl rfl h5 ?_
      refine sBk (lo' := [(0, vr 2 a0), (1, vi a1)]) (st' := [vi a1, vr 45 0, vi a1, vr 23 a0]) (μ' := μ) (pc' := 81) [(.getfield 75, 8, 5, 0, 0), (.iload_n 1, 0, 0, 0, 0)] (by decide +kernel) rfl rfl ?_
      refine sS_ial oI rfl (n := 60) (j := (ix a1)) (by decide +kernel) rfl rfl rfl (fun _ => ?_)
      refine sS_ias oI rfl (n := 60) (j := (ix a1)) (by decide +kernel) rfl rfl rfl (fun _ => ?_)
      refine sBk (lo' := [(0, vr 2 a0), (1, vi a1)]) (st' := [vi (a1 + 1)]) (μ' := wI μ 23 a0 (ix a1) (rI μ 45 0 (ix a1))) (pc' := 86) [(.iload_n 1, 0, 0, 0, 0), (.iconst 1, 0, 0, 1, 0), (.iadd, 0, 0, 0, 0)] (by decide +kernel) rfl rfl ?_
      exact sRi (by decide +kernel) (fun h => by cases h)
    refine sSc oI (fun _ => ?_) (fun _ => ?_)
    · refine sBk (lo' := [(0, vr 2 a0), (1, vi a1)]) (st' := [vr 2 a0]) (μ' := μ) (pc' := 88) [(.aload_n 0, 0, 0, 0, 0)] (by decide +kernel) rfl rfl ?_
      refine sCk oI rfl (fun h6 => ?_)
      refine sGr (idx := 47) (ci := 1) (sl := 9) (n := 0) (by decide +kernel) rfl rfl h6 ?_
      refine sBk (lo' := [(0, vr 2 a0), (1, vi a1)]) (st' := [vi (rI μ 9 0 2)]) (μ' := μ) (pc' := 94) [(.getfield 52, 8, 2, 0, 0)] (by decide +kernel) rfl rfl ?_
      exact sRi (by decide +kernel) (fun h => by cases h)
    refine sSd ?_
    refine sBk (lo' := [(0, vr 2 a0), (1, vi a1)]) (st' := [vi (a1 + 1)]) (μ' := μ) (pc' := 98) [(.iload_n 1, 0, 0, 0, 0), (.iconst 1, 0, 0, 1, 0), (.iadd, 0, 0, 0, 0)] (by decide +kernel) rfl rfl ?_
    exact sRi (by decide +kernel) (fun h => by cases h)
/-! ClockRiver$Life.run -/
def X1_run_J167 (k56 : Nat → Int32 → Int32 → sM → Option sM) (v0 : Nat) (v4 : Int32) (v5 : Int32) (μ : sM) : Option sM :=
  k56 v0 v4 (v5 + 1) μ
theorem X1_run_J167_ok {k56 : Nat → Int32 → Int32 → sM → Option sM} (hk56 : ∀ (v0 : Nat) (v4 : Int32) (v5 : Int32) (μ : sM), sOk 1 cX1_run 6 6 false 56 [(0, vr 2 v0), (4, vi v4), (5, vi v5)] [] μ (oV (k56 v0 v4 v5 μ))) (v0 : Nat) (v4 : Int32) (v5 : Int32) (μ : sM) : sOk 1 cX1_run 6 6 false 167 [(0, vr 2 v0), (4, vi v4), (5, vi v5)] [] μ (oV (X1_run_J167 k56 v0 v4 v5 μ)) := by
  unfold X1_run_J167
  refine sBk (lo' := [(5, vi (v5 + 1)), (0, vr 2 v0), (4, vi v4)]) (st' := []) (μ' := μ) (pc' := 170) [(.iinc 5 1, 0, 0, 1, 0)] (by decide +kernel) rfl rfl ?_
  refine sGt (off := (-114)) (tgt := 56) (by decide +kernel) (by decide) ?_
  refine sWk (lo' := [(0, vr 2 v0), (4, vi v4), (5, vi (v5 + 1))]) [1, 2, 0] rfl ?_
  exact hk56 v0 v4 (v5 + 1) μ
def X1_run_J155 (k56 : Nat → Int32 → Int32 → sM → Option sM) (v0 : Nat) (v4 : Int32) (v5 : Int32) (s0 : Int32) (s1 : Int32) (s2 : Nat) (μ : sM) : Option sM :=
  bI (X1_rowBehindStep v0 v4 (wI μ 2 s2 2 (s1 + s0))) fun x1 μ2 =>
    X1_run_J167 k56 v0 x1 v5 μ2
theorem X1_run_J155_ok {k56 : Nat → Int32 → Int32 → sM → Option sM} (hk56 : ∀ (v0 : Nat) (v4 : Int32) (v5 : Int32) (μ : sM), sOk 1 cX1_run 6 6 false 56 [(0, vr 2 v0), (4, vi v4), (5, vi v5)] [] μ (oV (k56 v0 v4 v5 μ))) (v0 : Nat) (v4 : Int32) (v5 : Int32) (s0 : Int32) (s1 : Int32) (s2 : Nat) (μ : sM) : sOk 1 cX1_run 6 6 false 155 [(0, vr 2 v0), (4, vi v4), (5, vi v5)] [vi s0, vi s1, vr 2 s2] μ (oV (X1_run_J155 k56 v0 v4 v5 s0 s1 s2 μ)) := by
  unfold X1_run_J155
  refine sBk (lo' := [(0, vr 2 v0), (4, vi v4), (5, vi v5)]) (st' := [vi v4, vr 2 v0]) (μ' := wI μ 2 s2 2 (s1 + s0)) (pc' := 162) [(.iadd, 0, 0, 0, 0), (.putfield 17, 1, 2, 0, 0), (.aload_n 0, 0, 0, 0, 0), (.iload 4, 0, 0, 0, 0)] (by decide +kernel) rfl rfl ?_
  refine sCvI oV rfl (ci := 1) (q := (2, v0)) (avs := [vi v4]) (rest := []) (tX1_rowBehindStep v0 v4 (wI μ 2 s2 2 (s1 + s0))) (by decide) (by decide +kernel) lk_1_66 yv_X1_rowBehindStep rfl (by decide) rfl rfl rfl (Nat.le_of_ble_eq_true rfl) (fun x1 μ2 => ?_)
  refine sBk (lo' := [(4, vi x1), (0, vr 2 v0), (5, vi v5)]) (st' := []) (μ' := μ2) (pc' := 167) [(.istore 4, 0, 0, 0, 0)] (by decide +kernel) rfl rfl ?_
  refine sWk (lo' := [(0, vr 2 v0), (4, vi x1), (5, vi v5)]) [1, 0, 2] rfl ?_
  exact X1_run_J167_ok hk56 v0 x1 v5 μ2
def X1_run_L56 : Nat → Nat → Int32 → Int32 → sM → Option sM
  | 0, _, _, _, _ => none
  | n + 1, v0, v4, v5, μ =>
    if 1000000 ≤ v5 then
      some μ
    else
      if (rR μ 2 v0 9) = 1 then
        if (rI μ 9 0 2) ≤ v4 then
          some μ
        else
          if (rI μ 2 v0 6) = 0 then
            if (rR μ 2 v0 9) = 1 then
              if inb v4 60 = true then
                if (rI μ 43 0 (ix v4)) = 25 then
                  bI (X1_rowBehindEnd v0 v4 μ) fun x5 μ6 =>
                    X1_run_J167 (X1_run_L56 n) v0 x5 v5 μ6
                else
                  if (rI μ 2 v0 1) < 300 then
                    bI (X1_isDone v0 v4 (wI μ 2 v0 1 ((rI μ 2 v0 1) + 1))) fun x3 μ4 =>
                      if x3 = 0 then
                        X1_run_J155 (X1_run_L56 n) v0 v4 v5 1 (rI μ 2 v0 2) v0 μ4
                      else
                        X1_run_J155 (X1_run_L56 n) v0 v4 v5 0 (rI μ 2 v0 2) v0 μ4
                  else
                    X1_run_J167 (X1_run_L56 n) v0 v4 v5 (wI μ 2 v0 6 1)
              else none
            else none
          else
            some μ
      else none
theorem X1_run_L56_ok : ∀ (n : Nat) (v0 : Nat) (v4 : Int32) (v5 : Int32) (μ : sM), sOk 1 cX1_run 6 6 false 56 [(0, vr 2 v0), (4, vi v4), (5, vi v5)] [] μ (oV (X1_run_L56 n v0 v4 v5 μ)) := by
  intro n
  induction n with
  | zero =>
    intros
    exact sNo
  | succ n ih =>
    intro v0 v4 v5 μ
    unfold X1_run_L56
    refine sBk (lo' := [(0, vr 2 v0), (4, vi v4), (5, vi v5)]) (st' := [vi 1000000, vi v5]) (μ' := μ) (pc' := 60) [(.iload 5, 0, 0, 0, 0), (.ldc 51, 0, 0, 1000000, 0)] (by decide +kernel) rfl rfl ?_
    refine sIc_ge oV (off := 113) (tgt := 173) (by decide +kernel) (by decide) (fun _ => ?_) (fun _ => ?_)
    · exact sRv (by decide +kernel)
    · refine sBk (lo' := [(0, vr 2 v0), (4, vi v4), (5, vi v5)]) (st' := [vr 2 v0, vi v4]) (μ' := μ) (pc' := 66) [(.iload 4, 0, 0, 0, 0), (.aload_n 0, 0, 0, 0, 0)] (by decide +kernel) rfl rfl ?_
      refine sCk oV rfl (fun h1 => ?_)
      refine sGr (idx := 47) (ci := 1) (sl := 9) (n := 0) (by decide +kernel) rfl rfl h1 ?_
      refine sBk (lo' := [(0, vr 2 v0), (4, vi v4), (5, vi v5)]) (st' := [vi (rI μ 9 0 2), vi v4]) (μ' := μ) (pc' := 72) [(.getfield 52, 8, 2, 0, 0)] (by decide +kernel) rfl rfl ?_
      refine sIc_ge oV (off := 101) (tgt := 173) (by decide +kernel) (by decide) (fun _ => ?_) (fun _ => ?_)
      · exact sRv (by decide +kernel)
      · refine sBk (lo' := [(0, vr 2 v0), (4, vi v4), (5, vi v5)]) (st' := [vi (rI μ 2 v0 6)]) (μ' := μ) (pc' := 79) [(.aload_n 0, 0, 0, 0, 0), (.getfield 30, 1, 6, 0, 0)] (by decide +kernel) rfl rfl ?_
        refine sIf_ne oV (off := 94) (tgt := 173) (by decide +kernel) (by decide) (fun _ => ?_) (fun _ => ?_)
        · exact sRv (by decide +kernel)
        · refine sBk (lo' := [(0, vr 2 v0), (4, vi v4), (5, vi v5)]) (st' := [vr 2 v0]) (μ' := μ) (pc' := 83) [(.aload_n 0, 0, 0, 0, 0)] (by decide +kernel) rfl rfl ?_
          refine sCk oV rfl (fun h2 => ?_)
          refine sGr (idx := 47) (ci := 1) (sl := 9) (n := 0) (by decide +kernel) rfl rfl h2 ?_
          refine sBk (lo' := [(0, vr 2 v0), (4, vi v4), (5, vi v5)]) (st' := [vi v4, vr 43 0]) (μ' := μ) (pc' := 91) [(.getfield 55, 8, 3, 0, 0), (.iload 4, 0, 0, 0, 0)] (by decide +kernel) rfl rfl ?_
          refine sS_ial oV rfl (n := 60) (j := (ix v4)) (by decide +kernel) rfl rfl rfl (fun _ => ?_)
          refine sBk (lo' := [(0, vr 2 v0), (4, vi v4), (5, vi v5)]) (st' := [vi 25, vi (rI μ 43 0 (ix v4))]) (μ' := μ) (pc' := 94) [(.bipush 25, 0, 0, 25, 0)] (by decide +kernel) rfl rfl ?_
          refine sIc_ne oV (off := 14) (tgt := 108) (by decide +kernel) (by decide) (fun _ => ?_) (fun _ => ?_)
          · refine sBk (lo' := [(0, vr 2 v0), (4, vi v4), (5, vi v5)]) (st' := [vi 300, vi (rI μ 2 v0 1)]) (μ' := μ) (pc' := 115) [(.aload_n 0, 0, 0, 0, 0), (.getfield 37, 1, 1, 0, 0), (.sipush 300, 0, 0, 300, 0)] (by decide +kernel) rfl rfl ?_
            refine sIc_lt oV (off := 11) (tgt := 126) (by decide +kernel) (by decide) (fun _ => ?_) (fun _ => ?_)
            · refine sBk (lo' := [(0, vr 2 v0), (4, vi v4), (5, vi v5)]) (st' := [vi v4, vr 2 v0, vi (rI μ 2 v0 2), vr 2 v0]) (μ' := wI μ 2 v0 1 ((rI μ 2 v0 1) + 1)) (pc' := 144) [(.aload_n 0, 0, 0, 0, 0), (.dup, 0, 0, 0, 0), (.getfield 37, 1, 1, 0, 0), (.iconst 1, 0, 0, 1, 0), (.iadd, 0, 0, 0, 0), (.putfield 37, 1, 1, 0, 0), (.aload_n 0, 0, 0, 0, 0), (.dup, 0, 0, 0, 0), (.getfield 17, 1, 2, 0, 0), (.aload_n 0, 0, 0, 0, 0), (.iload 4, 0, 0, 0, 0)] (by decide +kernel) rfl rfl ?_
              refine sCvI oV rfl (ci := 1) (q := (2, v0)) (avs := [vi v4]) (rest := [vi (rI μ 2 v0 2), vr 2 v0]) (tX1_isDone v0 v4 (wI μ 2 v0 1 ((rI μ 2 v0 1) + 1))) (by decide) (by decide +kernel) lk_1_62 yv_X1_isDone rfl (by decide) rfl rfl rfl (Nat.le_of_ble_eq_true rfl) (fun x3 μ4 => ?_)
              refine sIf_eq oV (off := 7) (tgt := 154) (by decide +kernel) (by decide) (fun _ => ?_) (fun _ => ?_)
              · refine sBk (lo' := [(0, vr 2 v0), (4, vi v4), (5, vi v5)]) (st' := [vi 1, vi (rI μ 2 v0 2), vr 2 v0]) (μ' := μ4) (pc' := 155) [(.iconst 1, 0, 0, 1, 0)] (by decide +kernel) rfl rfl ?_
                exact X1_run_J155_ok ih v0 v4 v5 1 (rI μ 2 v0 2) v0 μ4
              · refine sBk (lo' := [(0, vr 2 v0), (4, vi v4), (5, vi v5)]) (st' := [vi 0, vi (rI μ 2 v0 2), vr 2 v0]) (μ' := μ4) (pc' := 151) [(.iconst 0, 0, 0, 0, 0)] (by decide +kernel) rfl rfl ?_
                refine sGt (off := 4) (tgt := 155) (by decide +kernel) (by decide) ?_
                exact X1_run_J155_ok ih v0 v4 v5 0 (rI μ 2 v0 2) v0 μ4
            · refine sBk (lo' := [(0, vr 2 v0), (4, vi v4), (5, vi v5)]) (st' := []) (μ' := wI μ 2 v0 6 1) (pc' := 123) [(.aload_n 0, 0, 0, 0, 0), (.iconst 1, 0, 0, 1, 0), (.putfield 30, 1, 6, 0, 0)] (by decide +kernel) rfl rfl ?_
              refine sGt (off := 44) (tgt := 167) (by decide +kernel) (by decide) ?_
              exact X1_run_J167_ok ih v0 v4 v5 (wI μ 2 v0 6 1)
          · refine sBk (lo' := [(0, vr 2 v0), (4, vi v4), (5, vi v5)]) (st' := [vi v4, vr 2 v0]) (μ' := μ) (pc' := 100) [(.aload_n 0, 0, 0, 0, 0), (.iload 4, 0, 0, 0, 0)] (by decide +kernel) rfl rfl ?_
            refine sCvI oV rfl (ci := 1) (q := (2, v0)) (avs := [vi v4]) (rest := []) (tX1_rowBehindEnd v0 v4 μ) (by decide) (by decide +kernel) lk_1_58 yv_X1_rowBehindEnd rfl (by decide) rfl rfl rfl (Nat.le_of_ble_eq_true rfl) (fun x5 μ6 => ?_)
            refine sBk (lo' := [(4, vi x5), (0, vr 2 v0), (5, vi v5)]) (st' := []) (μ' := μ6) (pc' := 105) [(.istore 4, 0, 0, 0, 0)] (by decide +kernel) rfl rfl ?_
            refine sGt (off := 62) (tgt := 167) (by decide +kernel) (by decide) ?_
            refine sWk (lo' := [(0, vr 2 v0), (4, vi x5), (5, vi v5)]) [1, 0, 2] rfl ?_
            exact X1_run_J167_ok ih v0 x5 v5 μ6
def X1_run (a0 : Nat) (a1 : Nat) (a2 : Nat) (a3 : Int32) (μ : sM) : Option sM :=
  X1_run_L56 fuN a0 0 0 (wR (wR (wI (wI (wI (wI (wI (wI (wI (wI μ 2 a0 0 1) 2 a0 1 0) 2 a0 2 0) 2 a0 3 0) 2 a0 4 0) 2 a0 5 0) 2 a0 6 0) 2 a0 7 a3) 2 a0 8 (a1 + 1)) 2 a0 9 (a2 + 1))
theorem tX1_run (a0 : Nat) (a1 : Nat) (a2 : Nat) (a3 : Int32) (μ : sM) : sMt yX1_run cX1_run 6 none 6 [vr 2 a0, vr 5 a1, vr 9 a2, vi a3] μ (oV (X1_run a0 a1 a2 a3 μ)) := by
  refine sMt_of (own := 1) (bl := false) (by decide +kernel) rfl (Nat.le_of_ble_eq_true rfl) (fun r ρ h => ?_) ?_
  · obtain ⟨q, -, hq⟩ := Option.map_eq_some_iff.mp h
    cases hq
    exact rfl
  · unfold X1_run
    show sOk 1 cX1_run 6 6 false 0 [(0, vr 2 a0), (1, vr 5 a1), (2, vr 9 a2), (3, vi a3)] [] μ _
    refine sBk (lo' := [(5, vi 0), (4, vi 0), (0, vr 2 a0), (1, vr 5 a1), (2, vr 9 a2), (3, vi a3)]) (st' := []) (μ' := wR (wR (wI (wI (wI (wI (wI (wI (wI (wI μ 2 a0 0 1) 2 a0 1 0) 2 a0 2 0) 2 a0 3 0) 2 a0 4 0) 2 a0 5 0) 2 a0 6 0) 2 a0 7 a3) 2 a0 8 (a1 + 1)) 2 a0 9 (a2 + 1)) (pc' := 56) [(.aload_n 0, 0, 0, 0, 0), (.iconst 1, 0, 0, 1, 0), (.putfield 33, 1, 0, 0, 0), (.aload_n 0, 0, 0, 0, 0), (.iconst 0, 0, 0, 0, 0), (.putfield 37, 1, 1, 0, 0), (.aload_n 0, 0, 0, 0, 0), (.iconst 0, 0, 0, 0, 0), (.putfield 17, 1, 2, 0, 0), (.aload_n 0, 0, 0, 0, 0), (.iconst 0, 0, 0, 0, 0), (.putfield 21, 1, 3, 0, 0), (.aload_n 0, 0, 0, 0, 0), (.iconst 0, 0, 0, 0, 0), (.putfield 24, 1, 4, 0, 0), (.aload_n 0, 0, 0, 0, 0), (.iconst 0, 0, 0, 0, 0), (.putfield 27, 1, 5, 0, 0), (.aload_n 0, 0, 0, 0, 0), (.iconst 0, 0, 0, 0, 0), (.putfield 30, 1, 6, 0, 0), (.aload_n 0, 0, 0, 0, 0), (.iload_n 3, 0, 0, 0, 0), (.putfield 40, 1, 7, 0, 0), (.aload_n 0, 0, 0, 0, 0), (.aload_n 1, 0, 0, 0, 0), (.putfield 43, 1, 8, 0, 0), (.aload_n 0, 0, 0, 0, 0), (.aload_n 2, 0, 0, 0, 0), (.putfield 47, 1, 9, 0, 0), (.iconst 0, 0, 0, 0, 0), (.istore 4, 0, 0, 0, 0), (.iconst 0, 0, 0, 0, 0), (.istore 5, 0, 0, 0, 0)] (by decide +kernel) rfl rfl ?_
    refine sWk (lo' := [(0, vr 2 a0), (4, vi 0), (5, vi 0)]) [2, 1, 0] rfl ?_
    exact X1_run_L56_ok fuN a0 0 0 (wR (wR (wI (wI (wI (wI (wI (wI (wI (wI μ 2 a0 0 1) 2 a0 1 0) 2 a0 2 0) 2 a0 3 0) 2 a0 4 0) 2 a0 5 0) 2 a0 6 0) 2 a0 7 a3) 2 a0 8 (a1 + 1)) 2 a0 9 (a2 + 1))
/-! ClockRiver$Life.figure -/
def X1_figure (a0 : Nat) (a1 : Int32) (μ : sM) : Option (Int32 × sM) :=
  if a1 = 0 then
    some ((rI μ 2 a0 2), μ)
  else if a1 = 1 then
    some ((rI μ 2 a0 3), μ)
  else if a1 = 2 then
    some ((rI μ 2 a0 4), μ)
  else if a1 = 3 then
    some ((rI μ 2 a0 5), μ)
  else
    some ((rI μ 2 a0 6), μ)
theorem tX1_figure (a0 : Nat) (a1 : Int32) (μ : sM) : sMt yX1_figure cX1_figure 2 (some .int) 1 [vr 2 a0, vi a1] μ (oI (X1_figure a0 a1 μ)) := by
  refine sMt_of (own := 1) (bl := false) (by decide +kernel) rfl (Nat.le_of_ble_eq_true rfl) (fun r ρ h => ?_) ?_
  · obtain ⟨q, -, hq⟩ := Option.map_eq_some_iff.mp h
    cases hq
    exact Or.inl rfl
  · unfold X1_figure
    show sOk 1 cX1_figure 2 1 false 0 [(0, vr 2 a0), (1, vi a1)] [] μ _
    refine sBk (lo' := [(0, vr 2 a0), (1, vi a1)]) (st' := [vi a1]) (μ' := μ) (pc' := 1) [(.iload_n 1, 0, 0, 0, 0)] (by decide +kernel) rfl rfl ?_
    refine sTs (ps := [(0, 32), (1, 37), (2, 42), (3, 47)]) (df := 52) (by decide +kernel) ?_
    refine sSc oI (fun _ => ?_) (fun _ => ?_)
    · refine sBk (lo' := [(0, vr 2 a0), (1, vi a1)]) (st' := [vi (rI μ 2 a0 2)]) (μ' := μ) (pc' := 36) [(.aload_n 0, 0, 0, 0, 0), (.getfield 17, 1, 2, 0, 0)] (by decide +kernel) rfl rfl ?_
      exact sRi (by decide +kernel) (fun h => by cases h)
    refine sSc oI (fun _ => ?_) (fun _ => ?_)
    · refine sBk (lo' := [(0, vr 2 a0), (1, vi a1)]) (st' := [vi (rI μ 2 a0 3)]) (μ' := μ) (pc' := 41) [(.aload_n 0, 0, 0, 0, 0), (.getfield 21, 1, 3, 0, 0)] (by decide +kernel) rfl rfl ?_
      exact sRi (by decide +kernel) (fun h => by cases h)
    refine sSc oI (fun _ => ?_) (fun _ => ?_)
    · refine sBk (lo' := [(0, vr 2 a0), (1, vi a1)]) (st' := [vi (rI μ 2 a0 4)]) (μ' := μ) (pc' := 46) [(.aload_n 0, 0, 0, 0, 0), (.getfield 24, 1, 4, 0, 0)] (by decide +kernel) rfl rfl ?_
      exact sRi (by decide +kernel) (fun h => by cases h)
    refine sSc oI (fun _ => ?_) (fun _ => ?_)
    · refine sBk (lo' := [(0, vr 2 a0), (1, vi a1)]) (st' := [vi (rI μ 2 a0 5)]) (μ' := μ) (pc' := 51) [(.aload_n 0, 0, 0, 0, 0), (.getfield 27, 1, 5, 0, 0)] (by decide +kernel) rfl rfl ?_
      exact sRi (by decide +kernel) (fun h => by cases h)
    refine sSd ?_
    refine sBk (lo' := [(0, vr 2 a0), (1, vi a1)]) (st' := [vi (rI μ 2 a0 6)]) (μ' := μ) (pc' := 56) [(.aload_n 0, 0, 0, 0, 0), (.getfield 30, 1, 6, 0, 0)] (by decide +kernel) rfl rfl ?_
    exact sRi (by decide +kernel) (fun h => by cases h)
