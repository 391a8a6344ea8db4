theorem lk_12_385 : Cond.methodLink (kRn 12) 385 yX12_isSeventh ∈ sT := sT_in (n := 1979) (by decide +kernel) rfl
theorem lk_12_388 : Cond.methodLink (kRn 12) 388 yX12_turnsBy ∈ sT := sT_in (n := 1983) (by decide +kernel) rfl
theorem lk_12_391 : Cond.methodLink (kRn 12) 391 yX12_winds ∈ sT := sT_in (n := 1975) (by decide +kernel) rfl
theorem lk_12_397 : Cond.methodLink (kRn 12) 397 yX12_becomes ∈ sT := sT_in (n := 1996) (by decide +kernel) rfl
theorem lk_12_412 : Cond.methodLink (kRn 12) 412 yX12_puts ∈ sT := sT_in (n := 2037) (by decide +kernel) rfl
theorem lk_12_415 : Cond.methodLink (kRn 12) 415 yX12_gives ∈ sT := sT_in (n := 2041) (by decide +kernel) rfl
theorem lk_12_418 : Cond.methodLink (kRn 12) 418 yX12_isAhead ∈ sT := sT_in (n := 2029) (by decide +kernel) rfl
theorem lk_12_421 : Cond.methodLink (kRn 12) 421 yX12_cellIn ∈ sT := sT_in (n := 2033) (by decide +kernel) rfl
theorem ys_X12_isAhead : yS yX12_isAhead cX12_isAhead 1 (some .boolean) 1 := ⟨⟨sT_in (n := 2031) (by decide +kernel) rfl, sT_in (n := 149) (by decide +kernel) rfl, by decide +kernel, by decide⟩, sT_in (n := 2030) (by decide +kernel) rfl⟩
theorem yv_X12_becomes : yV yX12_becomes cX12_becomes 3 (some .boolean) 2 := ⟨⟨sT_in (n := 1999) (by decide +kernel) rfl, sT_in (n := 149) (by decide +kernel) rfl, by decide +kernel, by decide⟩, sT_in (n := 1998) (by decide +kernel) rfl, sT_in (n := 113) (by decide +kernel) rfl⟩
theorem yv_X12_cellIn : yV yX12_cellIn cX12_cellIn 4 (some .int) 2 := ⟨⟨sT_in (n := 2036) (by decide +kernel) rfl, sT_in (n := 149) (by decide +kernel) rfl, by decide +kernel, by decide⟩, sT_in (n := 2035) (by decide +kernel) rfl, sT_in (n := 114) (by decide +kernel) rfl⟩
theorem yv_X12_gives : yV yX12_gives cX12_gives 2 none 0 := ⟨⟨sT_in (n := 2044) (by decide +kernel) rfl, sT_in (n := 149) (by decide +kernel) rfl, by decide +kernel, by decide⟩, sT_in (n := 2043) (by decide +kernel) rfl, sT_in (n := 116) (by decide +kernel) rfl⟩
theorem yv_X12_isSeventh : yV yX12_isSeventh cX12_isSeventh 1 (some .boolean) 0 := ⟨⟨sT_in (n := 1982) (by decide +kernel) rfl, sT_in (n := 149) (by decide +kernel) rfl, by decide +kernel, by decide⟩, sT_in (n := 1981) (by decide +kernel) rfl, sT_in (n := 111) (by decide +kernel) rfl⟩
theorem yv_X12_puts : yV yX12_puts cX12_puts 2 none 0 := ⟨⟨sT_in (n := 2040) (by decide +kernel) rfl, sT_in (n := 149) (by decide +kernel) rfl, by decide +kernel, by decide⟩, sT_in (n := 2039) (by decide +kernel) rfl, sT_in (n := 115) (by decide +kernel) rfl⟩
theorem yv_X12_turnsBy : yV yX12_turnsBy cX12_turnsBy 2 none 1 := ⟨⟨sT_in (n := 1986) (by decide +kernel) rfl, sT_in (n := 149) (by decide +kernel) rfl, by decide +kernel, by decide⟩, sT_in (n := 1985) (by decide +kernel) rfl, sT_in (n := 112) (by decide +kernel) rfl⟩
theorem yv_X12_winds : yV yX12_winds cX12_winds 3 (some .boolean) 2 := ⟨⟨sT_in (n := 1978) (by decide +kernel) rfl, sT_in (n := 149) (by decide +kernel) rfl, by decide +kernel, by decide⟩, sT_in (n := 1977) (by decide +kernel) rfl, sT_in (n := 110) (by decide +kernel) rfl⟩
/-! ClockRiverModel.winds -/
def X12_winds_J36 (v1 : Int32) (s0 : Int32) (μ : sM) : Option (Int32 × sM) :=
  bV (X12_turnsBy s0 μ) fun μ2 =>
    if inb (64 + v1) 1740 = true then
      if inb (64 + v1) 1740 = true then
        if inb (70 + v1) 1740 = true then
          if inb (58 + v1) 1740 = true then
            if inb (70 + v1) 1740 = true then
              some (1, wI (wI μ2 61 0 (ix (64 + v1)) ((rI μ2 61 0 (ix (64 + v1))) + 1)) 61 0 (ix (70 + v1)) ((rI (wI μ2 61 0 (ix (64 + v1)) ((rI μ2 61 0 (ix (64 + v1))) + 1)) 61 0 (ix (70 + v1))) + (rI (wI μ2 61 0 (ix (64 + v1)) ((rI μ2 61 0 (ix (64 + v1))) + 1)) 61 0 (ix (58 + v1)))))
            else none
          else none
        else none
      else none
    else none
theorem X12_winds_J36_ok (v1 : Int32) (s0 : Int32) (μ : sM) : sOk 12 cX12_winds 3 3 true 36 [(0, vr 13 0), (1, vi v1)] [vi s0, vr 13 0] μ (oI (X12_winds_J36 v1 s0 μ)) := by
  unfold X12_winds_J36
  refine sCvV oI rfl (ci := 12) (q := (13, 0)) (avs := [vi s0]) (rest := []) (tX12_turnsBy s0 μ) (by decide) (by decide +kernel) lk_12_388 yv_X12_turnsBy rfl (by decide) rfl rfl rfl (Nat.le_of_ble_eq_true rfl) (fun μ2 => ?_)
  refine sBk (lo' := [(0, vr 13 0), (1, vi v1)]) (st' := [vi (64 + v1), vr 61 0, vi (64 + v1), vr 61 0]) (μ' := μ2) (pc' := 48) [(.aload_n 0, 0, 0, 0, 0), (.getfield 35, 12, 20, 0, 0), (.bipush 64, 0, 0, 64, 0), (.iload_n 1, 0, 0, 0, 0), (.iadd, 0, 0, 0, 0), (.dup2, 0, 0, 0, 0)] (by decide +kernel) rfl rfl ?_
  refine sS_ial oI rfl (n := 1740) (j := (ix (64 + v1))) (by decide +kernel) rfl rfl rfl (fun _ => ?_)
  refine sBk (lo' := [(0, vr 13 0), (1, vi v1)]) (st' := [vi ((rI μ2 61 0 (ix (64 + v1))) + 1), vi (64 + v1), vr 61 0]) (μ' := μ2) (pc' := 51) [(.iconst 1, 0, 0, 1, 0), (.iadd, 0, 0, 0, 0)] (by decide +kernel) rfl rfl ?_
  refine sS_ias oI rfl (n := 1740) (j := (ix (64 + v1))) (by decide +kernel) rfl rfl rfl (fun _ => ?_)
  refine sBk (lo' := [(0, vr 13 0), (1, vi v1)]) (st' := [vi (70 + v1), vr 61 0, vi (70 + v1), vr 61 0]) (μ' := wI μ2 61 0 (ix (64 + v1)) ((rI μ2 61 0 (ix (64 + v1))) + 1)) (pc' := 61) [(.aload_n 0, 0, 0, 0, 0), (.getfield 35, 12, 20, 0, 0), (.bipush 70, 0, 0, 70, 0), (.iload_n 1, 0, 0, 0, 0), (.iadd, 0, 0, 0, 0), (.dup2, 0, 0, 0, 0)] (by decide +kernel) rfl rfl ?_
  refine sS_ial oI rfl (n := 1740) (j := (ix (70 + v1))) (by decide +kernel) rfl rfl rfl (fun _ => ?_)
  refine sBk (lo' := [(0, vr 13 0), (1, vi v1)]) (st' := [vi (58 + v1), vr 61 0, vi (rI (wI μ2 61 0 (ix (64 + v1)) ((rI μ2 61 0 (ix (64 + v1))) + 1)) 61 0 (ix (70 + v1))), vi (70 + v1), vr 61 0]) (μ' := wI μ2 61 0 (ix (64 + v1)) ((rI μ2 61 0 (ix (64 + v1))) + 1)) (pc' := 70) [(.aload_n 0, 0, 0, 0, 0), (.getfield 35, 12, 20, 0, 0), (.bipush 58, 0, 0, 58, 0), (.iload_n 1, 0, 0, 0, 0), (.iadd, 0, 0, 0, 0)] (by decide +kernel) rfl rfl ?_
  refine sS_ial oI rfl (n := 1740) (j := (ix (58 + v1))) (by decide +kernel) rfl rfl rfl (fun _ => ?_)
  refine sBk (lo' := [(0, vr 13 0), (1, vi v1)]) (st' := [vi ((rI (wI μ2 61 0 (ix (64 + v1)) ((rI μ2 61 0 (ix (64 + v1))) + 1)) 61 0 (ix (70 + v1))) + (rI (wI μ2 61 0 (ix (64 + v1)) ((rI μ2 61 0 (ix (64 + v1))) + 1)) 61 0 (ix (58 + v1)))), vi (70 + v1), vr 61 0]) (μ' := wI μ2 61 0 (ix (64 + v1)) ((rI μ2 61 0 (ix (64 + v1))) + 1)) (pc' := 72) [(.iadd, 0, 0, 0, 0)] (by decide +kernel) rfl rfl ?_
  refine sS_ias oI rfl (n := 1740) (j := (ix (70 + v1))) (by decide +kernel) rfl rfl rfl (fun _ => ?_)
  refine sBk (lo' := [(0, vr 13 0), (1, vi v1)]) (st' := [vi 1]) (μ' := wI (wI μ2 61 0 (ix (64 + v1)) ((rI μ2 61 0 (ix (64 + v1))) + 1)) 61 0 (ix (70 + v1)) ((rI (wI μ2 61 0 (ix (64 + v1)) ((rI μ2 61 0 (ix (64 + v1))) + 1)) 61 0 (ix (70 + v1))) + (rI (wI μ2 61 0 (ix (64 + v1)) ((rI μ2 61 0 (ix (64 + v1))) + 1)) 61 0 (ix (58 + v1))))) (pc' := 74) [(.iconst 1, 0, 0, 1, 0)] (by decide +kernel) rfl rfl ?_
  exact sRi (by decide +kernel) (fun _ => Or.inr rfl)
def X12_winds (a1 : Int32) (a2 : Int32) (μ : sM) : Option (Int32 × sM) :=
  bI (X12_isSeventh μ) fun x1 μ2 =>
    if x1 = 0 then
      if a2 = 0 then
        if inb (52 + a1) 1740 = true then
          X12_winds_J36 a1 (rI μ2 61 0 (ix (52 + a1))) μ2
        else none
      else
        if inb (52 + a1) 1740 = true then
          X12_winds_J36 a1 (-(rI μ2 61 0 (ix (52 + a1)))) μ2
        else none
    else
      some (0, μ2)
theorem tX12_winds (a1 : Int32) (a2 : Int32) (μ : sM) : sMt yX12_winds cX12_winds 3 (some .boolean) 3 [vr 13 0, vi a1, vi a2] μ (oI (X12_winds a1 a2 μ)) := by
  refine sMt_of (own := 12) (bl := true) (by decide +kernel) rfl (Nat.le_of_ble_eq_true rfl) (fun r ρ h => ?_) ?_
  · obtain ⟨q, -, hq⟩ := Option.map_eq_some_iff.mp h
    cases hq
    exact Or.inr ⟨rfl, rfl⟩
  · unfold X12_winds
    show sOk 12 cX12_winds 3 3 true 0 [(0, vr 13 0), (1, vi a1), (2, vi a2)] [] μ _
    refine sBk (lo' := [(0, vr 13 0), (1, vi a1), (2, vi a2)]) (st' := [vr 13 0]) (μ' := μ) (pc' := 1) [(.aload_n 0, 0, 0, 0, 0)] (by decide +kernel) rfl rfl ?_
    refine sCvI oI rfl (ci := 12) (q := (13, 0)) (avs := []) (rest := []) (tX12_isSeventh μ) (by decide) (by decide +kernel) lk_12_385 yv_X12_isSeventh rfl (by decide) rfl rfl rfl (Nat.le_of_ble_eq_true rfl) (fun x1 μ2 => ?_)
    refine sIf_eq oI (off := 5) (tgt := 9) (by decide +kernel) (by decide) (fun _ => ?_) (fun _ => ?_)
    · refine sBk (lo' := [(0, vr 13 0), (1, vi a1), (2, vi a2)]) (st' := [vi a2, vr 13 0]) (μ' := μ2) (pc' := 11) [(.aload_n 0, 0, 0, 0, 0), (.iload_n 2, 0, 0, 0, 0)] (by decide +kernel) rfl rfl ?_
      refine sIf_eq oI (off := 16) (tgt := 27) (by decide +kernel) (by decide) (fun _ => ?_) (fun _ => ?_)
      · refine sBk (lo' := [(0, vr 13 0), (1, vi a1), (2, vi a2)]) (st' := [vi (52 + a1), vr 61 0, vr 13 0]) (μ' := μ2) (pc' := 35) [(.aload_n 0, 0, 0, 0, 0), (.getfield 35, 12, 20, 0, 0), (.bipush 52, 0, 0, 52, 0), (.iload_n 1, 0, 0, 0, 0), (.iadd, 0, 0, 0, 0)] (by decide +kernel) rfl rfl ?_
        refine sS_ial oI rfl (n := 1740) (j := (ix (52 + a1))) (by decide +kernel) rfl rfl rfl (fun _ => ?_)
        refine sWk (lo' := [(0, vr 13 0), (1, vi a1)]) [0, 1] rfl ?_
        exact X12_winds_J36_ok a1 (rI μ2 61 0 (ix (52 + a1))) μ2
      · refine sBk (lo' := [(0, vr 13 0), (1, vi a1), (2, vi a2)]) (st' := [vi (52 + a1), vr 61 0, vr 13 0]) (μ' := μ2) (pc' := 22) [(.aload_n 0, 0, 0, 0, 0), (.getfield 35, 12, 20, 0, 0), (.bipush 52, 0, 0, 52, 0), (.iload_n 1, 0, 0, 0, 0), (.iadd, 0, 0, 0, 0)] (by decide +kernel) rfl rfl ?_
        refine sS_ial oI rfl (n := 1740) (j := (ix (52 + a1))) (by decide +kernel) rfl rfl rfl (fun _ => ?_)
        refine sBk (lo' := [(0, vr 13 0), (1, vi a1), (2, vi a2)]) (st' := [vi (-(rI μ2 61 0 (ix (52 + a1)))), vr 13 0]) (μ' := μ2) (pc' := 24) [(.ineg, 0, 0, 0, 0)] (by decide +kernel) rfl rfl ?_
        refine sGt (off := 12) (tgt := 36) (by decide +kernel) (by decide) ?_
        refine sWk (lo' := [(0, vr 13 0), (1, vi a1)]) [0, 1] rfl ?_
        exact X12_winds_J36_ok a1 (-(rI μ2 61 0 (ix (52 + a1)))) μ2
    · refine sBk (lo' := [(0, vr 13 0), (1, vi a1), (2, vi a2)]) (st' := [vi 0]) (μ' := μ2) (pc' := 8) [(.iconst 0, 0, 0, 0, 0)] (by decide +kernel) rfl rfl ?_
      exact sRi (by decide +kernel) (fun _ => Or.inl rfl)
/-! ClockRiverModel.wind -/
def X12_wind (a1 : Int32) (a2 : Int32) (μ : sM) : Option (Int32 × sM) :=
  bI (X12_isWinderAt a1 (wI (wI μ 13 0 1 0) 13 0 0 0)) fun x1 μ2 =>
    if x1 = 0 then
      bI (X12_refuse 2 μ2) fun x7 μ8 =>
        some (x7, μ8)
    else
      bI (X12_winds a1 a2 μ2) fun x3 μ4 =>
        if x3 = 0 then
          bI (X12_refuse 9 μ4) fun x5 μ6 =>
            some (x5, μ6)
        else
          some ((rI μ4 61 0 9), μ4)
theorem tX12_wind (a1 : Int32) (a2 : Int32) (μ : sM) : sMt yX12_wind cX12_wind 3 (some .int) 4 [vr 13 0, vi a1, vi a2] μ (oI (X12_wind a1 a2 μ)) := by
  refine sMt_of (own := 12) (bl := false) (by decide +kernel) rfl (Nat.le_of_ble_eq_true rfl) (fun r ρ h => ?_) ?_
  · obtain ⟨q, -, hq⟩ := Option.map_eq_some_iff.mp h
    cases hq
    exact Or.inl rfl
  · unfold X12_wind
    show sOk 12 cX12_wind 3 4 false 0 [(0, vr 13 0), (1, vi a1), (2, vi a2)] [] μ _
    refine sBk (lo' := [(0, vr 13 0), (1, vi a1), (2, vi a2)]) (st' := [vi a1, vr 13 0]) (μ' := wI (wI μ 13 0 1 0) 13 0 0 0) (pc' := 12) [(.aload_n 0, 0, 0, 0, 0), (.iconst 0, 0, 0, 0, 0), (.putfield 72, 12, 1, 0, 0), (.aload_n 0, 0, 0, 0, 0), (.iconst 0, 0, 0, 0, 0), (.putfield 75, 12, 0, 0, 0), (.aload_n 0, 0, 0, 0, 0), (.iload_n 1, 0, 0, 0, 0)] (by decide +kernel) rfl rfl ?_
    refine sCvI oI rfl (ci := 12) (q := (13, 0)) (avs := [vi a1]) (rest := []) (tX12_isWinderAt a1 (wI (wI μ 13 0 1 0) 13 0 0 0)) (by decide) (by decide +kernel) lk_12_355 yv_X12_isWinderAt rfl (by decide) rfl rfl rfl (Nat.le_of_ble_eq_true rfl) (fun x1 μ2 => ?_)
    refine sIf_ne oI (off := 9) (tgt := 24) (by decide +kernel) (by decide) (fun _ => ?_) (fun _ => ?_)
    · refine sBk (lo' := [(0, vr 13 0), (1, vi a1), (2, vi a2)]) (st' := [vi a2, vi a1, vr 13 0]) (μ' := μ2) (pc' := 27) [(.aload_n 0, 0, 0, 0, 0), (.iload_n 1, 0, 0, 0, 0), (.iload_n 2, 0, 0, 0, 0)] (by decide +kernel) rfl rfl ?_
      refine sCvI oI rfl (ci := 12) (q := (13, 0)) (avs := [vi a1, vi a2]) (rest := []) (tX12_winds a1 a2 μ2) (by decide) (by decide +kernel) lk_12_391 yv_X12_winds rfl (by decide) rfl rfl rfl (Nat.le_of_ble_eq_true rfl) (fun x3 μ4 => ?_)
      refine sIf_eq oI (off := 13) (tgt := 43) (by decide +kernel) (by decide) (fun _ => ?_) (fun _ => ?_)
      · refine sBk (lo' := [(0, vr 13 0), (1, vi a1), (2, vi a2)]) (st' := [vi 9, vr 13 0]) (μ' := μ4) (pc' := 46) [(.aload_n 0, 0, 0, 0, 0), (.bipush 9, 0, 0, 9, 0)] (by decide +kernel) rfl rfl ?_
        refine sCvI oI rfl (ci := 12) (q := (13, 0)) (avs := [vi 9]) (rest := []) (tX12_refuse 9 μ4) (by decide) (by decide +kernel) lk_12_325 yv_X12_refuse rfl (by decide) rfl rfl rfl (Nat.le_of_ble_eq_true rfl) (fun x5 μ6 => ?_)
        exact sRi (by decide +kernel) (fun h => by cases h)
      · refine sBk (lo' := [(0, vr 13 0), (1, vi a1), (2, vi a2)]) (st' := [vi 9, vr 61 0]) (μ' := μ4) (pc' := 39) [(.aload_n 0, 0, 0, 0, 0), (.getfield 35, 12, 20, 0, 0), (.bipush 9, 0, 0, 9, 0)] (by decide +kernel) rfl rfl ?_
        refine sC_ial (n := 1740) (j := 9) (by decide +kernel) (by decide +kernel) rfl rfl (by decide +kernel) ?_
        refine sGt (off := 9) (tgt := 49) (by decide +kernel) (by decide) ?_
        exact sRi (by decide +kernel) (fun h => by cases h)
    · refine sBk (lo' := [(0, vr 13 0), (1, vi a1), (2, vi a2)]) (st' := [vi 2, vr 13 0]) (μ' := μ2) (pc' := 20) [(.aload_n 0, 0, 0, 0, 0), (.iconst 2, 0, 0, 2, 0)] (by decide +kernel) rfl rfl ?_
      refine sCvI oI rfl (ci := 12) (q := (13, 0)) (avs := [vi 2]) (rest := []) (tX12_refuse 2 μ2) (by decide) (by decide +kernel) lk_12_325 yv_X12_refuse rfl (by decide) rfl rfl rfl (Nat.le_of_ble_eq_true rfl) (fun x7 μ8 => ?_)
      exact sRi (by decide +kernel) (fun h => by cases h)
/-! ClockRiverModel.oil -/
def X12_oil (μ : sM) : Option (Int32 × sM) :=
  some (12, wI (wI (wI μ 13 0 1 0) 13 0 0 0) 61 0 8 12)
theorem tX12_oil (μ : sM) : sMt yX12_oil cX12_oil 1 (some .int) 1 [vr 13 0] μ (oI (X12_oil μ)) := by
  refine sMt_of (own := 12) (bl := false) (by decide +kernel) rfl (Nat.le_of_ble_eq_true rfl) (fun r ρ h => ?_) ?_
  · obtain ⟨q, -, hq⟩ := Option.map_eq_some_iff.mp h
    cases hq
    exact Or.inl rfl
  · unfold X12_oil
    show sOk 12 cX12_oil 1 1 false 0 [(0, vr 13 0)] [] μ _
    refine sBk (lo' := [(0, vr 13 0)]) (st' := [vi 12, vi 8, vr 61 0]) (μ' := wI (wI μ 13 0 1 0) 13 0 0 0) (pc' := 18) [(.aload_n 0, 0, 0, 0, 0), (.iconst 0, 0, 0, 0, 0), (.putfield 72, 12, 1, 0, 0), (.aload_n 0, 0, 0, 0, 0), (.iconst 0, 0, 0, 0, 0), (.putfield 75, 12, 0, 0, 0), (.aload_n 0, 0, 0, 0, 0), (.getfield 35, 12, 20, 0, 0), (.bipush 8, 0, 0, 8, 0), (.bipush 12, 0, 0, 12, 0)] (by decide +kernel) rfl rfl ?_
    refine sC_ias (n := 1740) (j := 8) (by decide +kernel) (by decide +kernel) rfl rfl (by decide +kernel) ?_
    refine sBk (lo' := [(0, vr 13 0)]) (st' := [vi 12]) (μ' := wI (wI (wI μ 13 0 1 0) 13 0 0 0) 61 0 8 12) (pc' := 21) [(.bipush 12, 0, 0, 12, 0)] (by decide +kernel) rfl rfl ?_
    exact sRi (by decide +kernel) (fun h => by cases h)
/-! ClockRiverModel.becomes -/
def X12_becomes (a1 : Int32) (a2 : Int32) (μ : sM) : Option (Int32 × sM) :=
  if inb a1 1740 = true then
    if (rI μ 61 0 (ix a1)) = a2 then
      some (0, μ)
    else
      if inb a1 1740 = true then
        some (1, wI μ 61 0 (ix a1) a2)
      else none
  else none
theorem tX12_becomes (a1 : Int32) (a2 : Int32) (μ : sM) : sMt yX12_becomes cX12_becomes 3 (some .boolean) 1 [vr 13 0, vi a1, vi a2] μ (oI (X12_becomes a1 a2 μ)) := by
  refine sMt_of (own := 12) (bl := true) (by decide +kernel) rfl (Nat.le_of_ble_eq_true rfl) (fun r ρ h => ?_) ?_
  · obtain ⟨q, -, hq⟩ := Option.map_eq_some_iff.mp h
    cases hq
    exact Or.inr ⟨rfl, rfl⟩
  · unfold X12_becomes
    show sOk 12 cX12_becomes 3 1 true 0 [(0, vr 13 0), (1, vi a1), (2, vi a2)] [] μ _
    refine sBk (lo' := [(0, vr 13 0), (1, vi a1), (2, vi a2)]) (st' := [vi a1, vr 61 0]) (μ' := μ) (pc' := 5) [(.aload_n 0, 0, 0, 0, 0), (.getfield 35, 12, 20, 0, 0), (.iload_n 1, 0, 0, 0, 0)] (by decide +kernel) rfl rfl ?_
    refine sS_ial oI rfl (n := 1740) (j := (ix a1)) (by decide +kernel) rfl rfl rfl (fun _ => ?_)
    refine sBk (lo' := [(0, vr 13 0), (1, vi a1), (2, vi a2)]) (st' := [vi a2, vi (rI μ 61 0 (ix a1))]) (μ' := μ) (pc' := 7) [(.iload_n 2, 0, 0, 0, 0)] (by decide +kernel) rfl rfl ?_
    refine sIc_ne oI (off := 5) (tgt := 12) (by decide +kernel) (by decide) (fun _ => ?_) (fun _ => ?_)
    · refine sBk (lo' := [(0, vr 13 0), (1, vi a1), (2, vi a2)]) (st' := [vi a2, vi a1, vr 61 0]) (μ' := μ) (pc' := 18) [(.aload_n 0, 0, 0, 0, 0), (.getfield 35, 12, 20, 0, 0), (.iload_n 1, 0, 0, 0, 0), (.iload_n 2, 0, 0, 0, 0)] (by decide +kernel) rfl rfl ?_
      refine sS_ias oI rfl (n := 1740) (j := (ix a1)) (by decide +kernel) rfl rfl rfl (fun _ => ?_)
      refine sBk (lo' := [(0, vr 13 0), (1, vi a1), (2, vi a2)]) (st' := [vi 1]) (μ' := wI μ 61 0 (ix a1) a2) (pc' := 20) [(.iconst 1, 0, 0, 1, 0)] (by decide +kernel) rfl rfl ?_
      exact sRi (by decide +kernel) (fun _ => Or.inr rfl)
    · refine sBk (lo' := [(0, vr 13 0), (1, vi a1), (2, vi a2)]) (st' := [vi 0]) (μ' := μ) (pc' := 11) [(.iconst 0, 0, 0, 0, 0)] (by decide +kernel) rfl rfl ?_
      exact sRi (by decide +kernel) (fun _ => Or.inl rfl)
/-! ClockRiverModel.gate -/
def X12_gate (a1 : Int32) (a2 : Int32) (μ : sM) : Option (Int32 × sM) :=
  bI (X12_isReachAt a1 (wI (wI μ 13 0 1 0) 13 0 0 0)) fun x1 μ2 =>
    if x1 = 0 then
      bI (X12_refuse 2 μ2) fun x11 μ12 =>
        some (x11, μ12)
    else
      bI (X12_isIn (Int32.toInt64 a2) 0 99 μ2) fun x3 μ4 =>
        if x3 = 0 then
          bI (X12_refuse 5 μ4) fun x9 μ10 =>
            some (x9, μ10)
        else
          if inb (22 + a1) 1740 = true then
            bI (X12_becomes (22 + a1) a2 μ4) fun x5 μ6 =>
              if x5 = 0 then
                bI (X12_refuse 9 μ6) fun x7 μ8 =>
                  some (x7, μ8)
              else
                some ((rI μ4 61 0 (ix (22 + a1))), μ6)
          else none
theorem tX12_gate (a1 : Int32) (a2 : Int32) (μ : sM) : sMt yX12_gate cX12_gate 4 (some .int) 3 [vr 13 0, vi a1, vi a2] μ (oI (X12_gate a1 a2 μ)) := by
  refine sMt_of (own := 12) (bl := false) (by decide +kernel) rfl (Nat.le_of_ble_eq_true rfl) (fun r ρ h => ?_) ?_
  · obtain ⟨q, -, hq⟩ := Option.map_eq_some_iff.mp h
    cases hq
    exact Or.inl rfl
  · unfold X12_gate
    show sOk 12 cX12_gate 4 3 false 0 [(0, vr 13 0), (1, vi a1), (2, vi a2)] [] μ _
    refine sBk (lo' := [(0, vr 13 0), (1, vi a1), (2, vi a2)]) (st' := [vi a1, vr 13 0]) (μ' := wI (wI μ 13 0 1 0) 13 0 0 0) (pc' := 12) [(.aload_n 0, 0, 0, 0, 0), (.iconst 0, 0, 0, 0, 0), (.putfield 72, 12, 1, 0, 0), (.aload_n 0, 0, 0, 0, 0), (.iconst 0, 0, 0, 0, 0), (.putfield 75, 12, 0, 0, 0), (.aload_n 0, 0, 0, 0, 0), (.iload_n 1, 0, 0, 0, 0)] (by decide +kernel) rfl rfl ?_
    refine sCvI oI rfl (ci := 12) (q := (13, 0)) (avs := [vi a1]) (rest := []) (tX12_isReachAt a1 (wI (wI μ 13 0 1 0) 13 0 0 0)) (by decide) (by decide +kernel) lk_12_339 yv_X12_isReachAt rfl (by decide) rfl rfl rfl (Nat.le_of_ble_eq_true rfl) (fun x1 μ2 => ?_)
    refine sIf_ne oI (off := 9) (tgt := 24) (by decide +kernel) (by decide) (fun _ => ?_) (fun _ => ?_)
    · refine sBk (lo' := [(0, vr 13 0), (1, vi a1), (2, vi a2)]) (st' := [vl 99, vl 0, vl (Int32.toInt64 a2)]) (μ' := μ2) (pc' := 30) [(.iload_n 2, 0, 0, 0, 0), (.i2l, 0, 0, 0, 0), (.lconst 0, 0, 0, 0, 0), (.ldc2_w 395, 0, 0, 0, 99)] (by decide +kernel) rfl rfl ?_
      refine sCsI oI rfl (avs := [vl (Int32.toInt64 a2), vl 0, vl 99]) (rest := []) (tX12_isIn (Int32.toInt64 a2) 0 99 μ2) (by decide) (by decide +kernel) lk_12_107 ys_X12_isIn rfl rfl (Nat.le_of_ble_eq_true rfl) (fun x3 μ4 => ?_)
      refine sIf_ne oI (off := 9) (tgt := 42) (by decide +kernel) (by decide) (fun _ => ?_) (fun _ => ?_)
      · refine sBk (lo' := [(0, vr 13 0), (1, vi a1), (2, vi a2)]) (st' := [vi (22 + a1), vr 61 0]) (μ' := μ4) (pc' := 50) [(.aload_n 0, 0, 0, 0, 0), (.getfield 35, 12, 20, 0, 0), (.bipush 22, 0, 0, 22, 0), (.iload_n 1, 0, 0, 0, 0), (.iadd, 0, 0, 0, 0)] (by decide +kernel) rfl rfl ?_
        refine sS_ial oI rfl (n := 1740) (j := (ix (22 + a1))) (by decide +kernel) rfl rfl rfl (fun _ => ?_)
        refine sBk (lo' := [(3, vi (rI μ4 61 0 (ix (22 + a1)))), (0, vr 13 0), (1, vi a1), (2, vi a2)]) (st' := [vi a2, vi (22 + a1), vr 13 0]) (μ' := μ4) (pc' := 58) [(.istore_n 3, 0, 0, 0, 0), (.aload_n 0, 0, 0, 0, 0), (.bipush 22, 0, 0, 22, 0), (.iload_n 1, 0, 0, 0, 0), (.iadd, 0, 0, 0, 0), (.iload_n 2, 0, 0, 0, 0)] (by decide +kernel) rfl rfl ?_
        refine sCvI oI rfl (ci := 12) (q := (13, 0)) (avs := [vi (22 + a1), vi a2]) (rest := []) (tX12_becomes (22 + a1) a2 μ4) (by decide) (by decide +kernel) lk_12_397 yv_X12_becomes rfl (by decide) rfl rfl rfl (Nat.le_of_ble_eq_true rfl) (fun x5 μ6 => ?_)
        refine sIf_eq oI (off := 7) (tgt := 68) (by decide +kernel) (by decide) (fun _ => ?_) (fun _ => ?_)
        · refine sBk (lo' := [(3, vi (rI μ4 61 0 (ix (22 + a1)))), (0, vr 13 0), (1, vi a1), (2, vi a2)]) (st' := [vi 9, vr 13 0]) (μ' := μ6) (pc' := 71) [(.aload_n 0, 0, 0, 0, 0), (.bipush 9, 0, 0, 9, 0)] (by decide +kernel) rfl rfl ?_
          refine sCvI oI rfl (ci := 12) (q := (13, 0)) (avs := [vi 9]) (rest := []) (tX12_refuse 9 μ6) (by decide) (by decide +kernel) lk_12_325 yv_X12_refuse rfl (by decide) rfl rfl rfl (Nat.le_of_ble_eq_true rfl) (fun x7 μ8 => ?_)
          exact sRi (by decide +kernel) (fun h => by cases h)
        · refine sBk (lo' := [(3, vi (rI μ4 61 0 (ix (22 + a1)))), (0, vr 13 0), (1, vi a1), (2, vi a2)]) (st' := [vi (rI μ4 61 0 (ix (22 + a1)))]) (μ' := μ6) (pc' := 65) [(.iload_n 3, 0, 0, 0, 0)] (by decide +kernel) rfl rfl ?_
          refine sGt (off := 9) (tgt := 74) (by decide +kernel) (by decide) ?_
          exact sRi (by decide +kernel) (fun h => by cases h)
      · refine sBk (lo' := [(0, vr 13 0), (1, vi a1), (2, vi a2)]) (st' := [vi 5, vr 13 0]) (μ' := μ4) (pc' := 38) [(.aload_n 0, 0, 0, 0, 0), (.iconst 5, 0, 0, 5, 0)] (by decide +kernel) rfl rfl ?_
        refine sCvI oI rfl (ci := 12) (q := (13, 0)) (avs := [vi 5]) (rest := []) (tX12_refuse 5 μ4) (by decide) (by decide +kernel) lk_12_325 yv_X12_refuse rfl (by decide) rfl rfl rfl (Nat.le_of_ble_eq_true rfl) (fun x9 μ10 => ?_)
        exact sRi (by decide +kernel) (fun h => by cases h)
    · refine sBk (lo' := [(0, vr 13 0), (1, vi a1), (2, vi a2)]) (st' := [vi 2, vr 13 0]) (μ' := μ2) (pc' := 20) [(.aload_n 0, 0, 0, 0, 0), (.iconst 2, 0, 0, 2, 0)] (by decide +kernel) rfl rfl ?_
      refine sCvI oI rfl (ci := 12) (q := (13, 0)) (avs := [vi 2]) (rest := []) (tX12_refuse 2 μ2) (by decide) (by decide +kernel) lk_12_325 yv_X12_refuse rfl (by decide) rfl rfl rfl (Nat.le_of_ble_eq_true rfl) (fun x11 μ12 => ?_)
      exact sRi (by decide +kernel) (fun h => by cases h)
/-! ClockRiverModel.rain -/
def X12_rain_J22 (s0 : Int32) (s1 : Int32) (μ : sM) : Option (Int32 × sM) :=
  bI (X12_becomes s1 s0 μ) fun x1 μ2 =>
    if x1 = 0 then
      bI (X12_no 9 μ2) fun x3 μ4 =>
        if x3 = 0 then
          some (0, μ4)
        else
          some (1, μ4)
    else
      some (1, μ2)
theorem X12_rain_J22_ok (s0 : Int32) (s1 : Int32) (μ : sM) : sOk 12 cX12_rain 2 2 true 22 [(0, vr 13 0)] [vi s0, vi s1, vr 13 0] μ (oI (X12_rain_J22 s0 s1 μ)) := by
  unfold X12_rain_J22
  refine sCvI oI rfl (ci := 12) (q := (13, 0)) (avs := [vi s1, vi s0]) (rest := []) (tX12_becomes s1 s0 μ) (by decide) (by decide +kernel) lk_12_397 yv_X12_becomes rfl (by decide) rfl rfl rfl (Nat.le_of_ble_eq_true rfl) (fun x1 μ2 => ?_)
  refine sIf_ne oI (off := 12) (tgt := 37) (by decide +kernel) (by decide) (fun _ => ?_) (fun _ => ?_)
  · refine sBk (lo' := [(0, vr 13 0)]) (st' := [vi 1]) (μ' := μ2) (pc' := 38) [(.iconst 1, 0, 0, 1, 0)] (by decide +kernel) rfl rfl ?_
    refine sGt (off := 4) (tgt := 42) (by decide +kernel) (by decide) ?_
    exact sRi (by decide +kernel) (fun _ => Or.inr rfl)
  · refine sBk (lo' := [(0, vr 13 0)]) (st' := [vi 9, vr 13 0]) (μ' := μ2) (pc' := 31) [(.aload_n 0, 0, 0, 0, 0), (.bipush 9, 0, 0, 9, 0)] (by decide +kernel) rfl rfl ?_
    refine sCvI oI rfl (ci := 12) (q := (13, 0)) (avs := [vi 9]) (rest := []) (tX12_no 9 μ2) (by decide) (by decide +kernel) lk_12_87 yv_X12_no rfl (by decide) rfl rfl rfl (Nat.le_of_ble_eq_true rfl) (fun x3 μ4 => ?_)
    refine sIf_eq oI (off := 7) (tgt := 41) (by decide +kernel) (by decide) (fun _ => ?_) (fun _ => ?_)
    · refine sBk (lo' := [(0, vr 13 0)]) (st' := [vi 0]) (μ' := μ4) (pc' := 42) [(.iconst 0, 0, 0, 0, 0)] (by decide +kernel) rfl rfl ?_
      exact sRi (by decide +kernel) (fun _ => Or.inl rfl)
    · refine sBk (lo' := [(0, vr 13 0)]) (st' := [vi 1]) (μ' := μ4) (pc' := 38) [(.iconst 1, 0, 0, 1, 0)] (by decide +kernel) rfl rfl ?_
      refine sGt (off := 4) (tgt := 42) (by decide +kernel) (by decide) ?_
      exact sRi (by decide +kernel) (fun _ => Or.inr rfl)
def X12_rain (a1 : Int32) (μ : sM) : Option (Int32 × sM) :=
  if a1 = 0 then
    X12_rain_J22 0 7 (wI (wI μ 13 0 1 0) 13 0 0 0)
  else
    X12_rain_J22 1 7 (wI (wI μ 13 0 1 0) 13 0 0 0)
theorem tX12_rain (a1 : Int32) (μ : sM) : sMt yX12_rain cX12_rain 2 (some .boolean) 2 [vr 13 0, vi a1] μ (oI (X12_rain a1 μ)) := by
  refine sMt_of (own := 12) (bl := true) (by decide +kernel) rfl (Nat.le_of_ble_eq_true rfl) (fun r ρ h => ?_) ?_
  · obtain ⟨q, -, hq⟩ := Option.map_eq_some_iff.mp h
    cases hq
    exact Or.inr ⟨rfl, rfl⟩
  · unfold X12_rain
    show sOk 12 cX12_rain 2 2 true 0 [(0, vr 13 0), (1, vi a1)] [] μ _
    refine sBk (lo' := [(0, vr 13 0), (1, vi a1)]) (st' := [vi a1, vi 7, vr 13 0]) (μ' := wI (wI μ 13 0 1 0) 13 0 0 0) (pc' := 14) [(.aload_n 0, 0, 0, 0, 0), (.iconst 0, 0, 0, 0, 0), (.putfield 72, 12, 1, 0, 0), (.aload_n 0, 0, 0, 0, 0), (.iconst 0, 0, 0, 0, 0), (.putfield 75, 12, 0, 0, 0), (.aload_n 0, 0, 0, 0, 0), (.bipush 7, 0, 0, 7, 0), (.iload_n 1, 0, 0, 0, 0)] (by decide +kernel) rfl rfl ?_
    refine sIf_eq oI (off := 7) (tgt := 21) (by decide +kernel) (by decide) (fun _ => ?_) (fun _ => ?_)
    · refine sBk (lo' := [(0, vr 13 0), (1, vi a1)]) (st' := [vi 0, vi 7, vr 13 0]) (μ' := wI (wI μ 13 0 1 0) 13 0 0 0) (pc' := 22) [(.iconst 0, 0, 0, 0, 0)] (by decide +kernel) rfl rfl ?_
      refine sWk (lo' := [(0, vr 13 0)]) [0] rfl ?_
      exact X12_rain_J22_ok 0 7 (wI (wI μ 13 0 1 0) 13 0 0 0)
    · refine sBk (lo' := [(0, vr 13 0), (1, vi a1)]) (st' := [vi 1, vi 7, vr 13 0]) (μ' := wI (wI μ 13 0 1 0) 13 0 0 0) (pc' := 18) [(.iconst 1, 0, 0, 1, 0)] (by decide +kernel) rfl rfl ?_
      refine sGt (off := 4) (tgt := 22) (by decide +kernel) (by decide) ?_
      refine sWk (lo' := [(0, vr 13 0)]) [0] rfl ?_
      exact X12_rain_J22_ok 1 7 (wI (wI μ 13 0 1 0) 13 0 0 0)
/-! ClockRiverModel.bring -/
def X12_bring_J42 (μ : sM) : Option (Int32 × sM) :=
  bI (X12_refuse 5 μ) fun x1 μ2 =>
    some (x1, μ2)
theorem X12_bring_J42_ok (μ : sM) : sOk 12 cX12_bring 4 3 false 42 [(0, vr 13 0)] [] μ (oI (X12_bring_J42 μ)) := by
  unfold X12_bring_J42
  refine sBk (lo' := [(0, vr 13 0)]) (st' := [vi 5, vr 13 0]) (μ' := μ) (pc' := 44) [(.aload_n 0, 0, 0, 0, 0), (.iconst 5, 0, 0, 5, 0)] (by decide +kernel) rfl rfl ?_
  refine sCvI oI rfl (ci := 12) (q := (13, 0)) (avs := [vi 5]) (rest := []) (tX12_refuse 5 μ) (by decide) (by decide +kernel) lk_12_325 yv_X12_refuse rfl (by decide) rfl rfl rfl (Nat.le_of_ble_eq_true rfl) (fun x1 μ2 => ?_)
  exact sRi (by decide +kernel) (fun h => by cases h)
def X12_bring (a1 : Int32) (a2 : Int32) (μ : sM) : Option (Int32 × sM) :=
  bI (X12_isReachAt a1 (wI (wI μ 13 0 1 0) 13 0 0 0)) fun x1 μ2 =>
    if x1 = 0 then
      bI (X12_refuse 2 μ2) fun x7 μ8 =>
        some (x7, μ8)
    else
      bI (X12_isIn (Int32.toInt64 a2) (-999) 999 μ2) fun x3 μ4 =>
        if x3 = 0 then
          X12_bring_J42 μ4
        else
          if a2 = 0 then
            X12_bring_J42 μ4
          else
            if inb (28 + a1) 1740 = true then
              if 0 ≤ ((rI μ4 61 0 (ix (28 + a1))) + a2) then
                if inb (16 + a1) 1740 = true then
                  if inb (16 + a1) 1740 = true then
                    if inb (28 + a1) 1740 = true then
                      if inb (28 + a1) 1740 = true then
                        some ((rI (wI (wI μ4 61 0 13 ((rI μ4 61 0 13) + (imx 0 (((rI μ4 61 0 (ix (28 + a1))) + a2) - (rI μ4 61 0 (ix (16 + a1))))))) 61 0 (ix (28 + a1)) (imn (rI (wI μ4 61 0 13 ((rI μ4 61 0 13) + (imx 0 (((rI μ4 61 0 (ix (28 + a1))) + a2) - (rI μ4 61 0 (ix (16 + a1))))))) 61 0 (ix (16 + a1))) ((rI μ4 61 0 (ix (28 + a1))) + a2))) 61 0 (ix (28 + a1))), wI (wI μ4 61 0 13 ((rI μ4 61 0 13) + (imx 0 (((rI μ4 61 0 (ix (28 + a1))) + a2) - (rI μ4 61 0 (ix (16 + a1))))))) 61 0 (ix (28 + a1)) (imn (rI (wI μ4 61 0 13 ((rI μ4 61 0 13) + (imx 0 (((rI μ4 61 0 (ix (28 + a1))) + a2) - (rI μ4 61 0 (ix (16 + a1))))))) 61 0 (ix (16 + a1))) ((rI μ4 61 0 (ix (28 + a1))) + a2)))
                      else none
                    else none
                  else none
                else none
              else
                bI (X12_refuse 9 μ4) fun x5 μ6 =>
                  some (x5, μ6)
            else none
theorem tX12_bring (a1 : Int32) (a2 : Int32) (μ : sM) : sMt yX12_bring cX12_bring 4 (some .int) 3 [vr 13 0, vi a1, vi a2] μ (oI (X12_bring a1 a2 μ)) := by
  refine sMt_of (own := 12) (bl := false) (by decide +kernel) rfl (Nat.le_of_ble_eq_true rfl) (fun r ρ h => ?_) ?_
  · obtain ⟨q, -, hq⟩ := Option.map_eq_some_iff.mp h
    cases hq
    exact Or.inl rfl
  · unfold X12_bring
    show sOk 12 cX12_bring 4 3 false 0 [(0, vr 13 0), (1, vi a1), (2, vi a2)] [] μ _
    refine sBk (lo' := [(0, vr 13 0), (1, vi a1), (2, vi a2)]) (st' := [vi a1, vr 13 0]) (μ' := wI (wI μ 13 0 1 0) 13 0 0 0) (pc' := 12) [(.aload_n 0, 0, 0, 0, 0), (.iconst 0, 0, 0, 0, 0), (.putfield 72, 12, 1, 0, 0), (.aload_n 0, 0, 0, 0, 0), (.iconst 0, 0, 0, 0, 0), (.putfield 75, 12, 0, 0, 0), (.aload_n 0, 0, 0, 0, 0), (.iload_n 1, 0, 0, 0, 0)] (by decide +kernel) rfl rfl ?_
    refine sCvI oI rfl (ci := 12) (q := (13, 0)) (avs := [vi a1]) (rest := []) (tX12_isReachAt a1 (wI (wI μ 13 0 1 0) 13 0 0 0)) (by decide) (by decide +kernel) lk_12_339 yv_X12_isReachAt rfl (by decide) rfl rfl rfl (Nat.le_of_ble_eq_true rfl) (fun x1 μ2 => ?_)
    refine sIf_ne oI (off := 9) (tgt := 24) (by decide +kernel) (by decide) (fun _ => ?_) (fun _ => ?_)
    · refine sBk (lo' := [(0, vr 13 0), (1, vi a1), (2, vi a2)]) (st' := [vl 999, vl (-999), vl (Int32.toInt64 a2)]) (μ' := μ2) (pc' := 32) [(.iload_n 2, 0, 0, 0, 0), (.i2l, 0, 0, 0, 0), (.ldc2_w 400, 0, 0, 0, (-999)), (.ldc2_w 402, 0, 0, 0, 999)] (by decide +kernel) rfl rfl ?_
      refine sCsI oI rfl (avs := [vl (Int32.toInt64 a2), vl (-999), vl 999]) (rest := []) (tX12_isIn (Int32.toInt64 a2) (-999) 999 μ2) (by decide) (by decide +kernel) lk_12_107 ys_X12_isIn rfl rfl (Nat.le_of_ble_eq_true rfl) (fun x3 μ4 => ?_)
      refine sIf_eq oI (off := 7) (tgt := 42) (by decide +kernel) (by decide) (fun _ => ?_) (fun _ => ?_)
      · refine sWk (lo' := [(0, vr 13 0)]) [0] rfl ?_
        exact X12_bring_J42_ok μ4
      · refine sBk (lo' := [(0, vr 13 0), (1, vi a1), (2, vi a2)]) (st' := [vi a2]) (μ' := μ4) (pc' := 39) [(.iload_n 2, 0, 0, 0, 0)] (by decide +kernel) rfl rfl ?_
        refine sIf_ne oI (off := 9) (tgt := 48) (by decide +kernel) (by decide) (fun _ => ?_) (fun _ => ?_)
        · refine sBk (lo' := [(0, vr 13 0), (1, vi a1), (2, vi a2)]) (st' := [vi (28 + a1), vr 61 0]) (μ' := μ4) (pc' := 56) [(.aload_n 0, 0, 0, 0, 0), (.getfield 35, 12, 20, 0, 0), (.bipush 28, 0, 0, 28, 0), (.iload_n 1, 0, 0, 0, 0), (.iadd, 0, 0, 0, 0)] (by decide +kernel) rfl rfl ?_
          refine sS_ial oI rfl (n := 1740) (j := (ix (28 + a1))) (by decide +kernel) rfl rfl rfl (fun _ => ?_)
          refine sBk (lo' := [(3, vi ((rI μ4 61 0 (ix (28 + a1))) + a2)), (0, vr 13 0), (1, vi a1), (2, vi a2)]) (st' := [vi ((rI μ4 61 0 (ix (28 + a1))) + a2)]) (μ' := μ4) (pc' := 61) [(.iload_n 2, 0, 0, 0, 0), (.iadd, 0, 0, 0, 0), (.istore_n 3, 0, 0, 0, 0), (.iload_n 3, 0, 0, 0, 0)] (by decide +kernel) rfl rfl ?_
          refine sIf_ge oI (off := 10) (tgt := 71) (by decide +kernel) (by decide) (fun _ => ?_) (fun _ => ?_)
          · refine sBk (lo' := [(3, vi ((rI μ4 61 0 (ix (28 + a1))) + a2)), (0, vr 13 0), (1, vi a1), (2, vi a2)]) (st' := [vi 13, vr 61 0, vi 13, vr 61 0]) (μ' := μ4) (pc' := 78) [(.aload_n 0, 0, 0, 0, 0), (.getfield 35, 12, 20, 0, 0), (.bipush 13, 0, 0, 13, 0), (.dup2, 0, 0, 0, 0)] (by decide +kernel) rfl rfl ?_
            refine sC_ial (n := 1740) (j := 13) (by decide +kernel) (by decide +kernel) rfl rfl (by decide +kernel) ?_
            refine sBk (lo' := [(3, vi ((rI μ4 61 0 (ix (28 + a1))) + a2)), (0, vr 13 0), (1, vi a1), (2, vi a2)]) (st' := [vi (16 + a1), vr 61 0, vi ((rI μ4 61 0 (ix (28 + a1))) + a2), vi 0, vi (rI μ4 61 0 13), vi 13, vr 61 0]) (μ' := μ4) (pc' := 89) [(.iconst 0, 0, 0, 0, 0), (.iload_n 3, 0, 0, 0, 0), (.aload_n 0, 0, 0, 0, 0), (.getfield 35, 12, 20, 0, 0), (.bipush 16, 0, 0, 16, 0), (.iload_n 1, 0, 0, 0, 0), (.iadd, 0, 0, 0, 0)] (by decide +kernel) rfl rfl ?_
            refine sS_ial oI rfl (n := 1740) (j := (ix (16 + a1))) (by decide +kernel) rfl rfl rfl (fun _ => ?_)
            refine sBk (lo' := [(3, vi ((rI μ4 61 0 (ix (28 + a1))) + a2)), (0, vr 13 0), (1, vi a1), (2, vi a2)]) (st' := [vi (((rI μ4 61 0 (ix (28 + a1))) + a2) - (rI μ4 61 0 (ix (16 + a1)))), vi 0, vi (rI μ4 61 0 13), vi 13, vr 61 0]) (μ' := μ4) (pc' := 91) [(.isub, 0, 0, 0, 0)] (by decide +kernel) rfl rfl ?_
            refine sMax (idx := 256) (p1 := 1835) (by decide +kernel) (by decide) (Nat.le_of_ble_eq_true rfl) ?_
            refine sBk (lo' := [(3, vi ((rI μ4 61 0 (ix (28 + a1))) + a2)), (0, vr 13 0), (1, vi a1), (2, vi a2)]) (st' := [vi ((rI μ4 61 0 13) + (imx 0 (((rI μ4 61 0 (ix (28 + a1))) + a2) - (rI μ4 61 0 (ix (16 + a1)))))), vi 13, vr 61 0]) (μ' := μ4) (pc' := 95) [(.iadd, 0, 0, 0, 0)] (by decide +kernel) rfl rfl ?_
            refine sC_ias (n := 1740) (j := 13) (by decide +kernel) (by decide +kernel) rfl rfl (by decide +kernel) ?_
            refine sBk (lo' := [(3, vi ((rI μ4 61 0 (ix (28 + a1))) + a2)), (0, vr 13 0), (1, vi a1), (2, vi a2)]) (st' := [vi (16 + a1), vr 61 0, vi (28 + a1), vr 61 0]) (μ' := wI μ4 61 0 13 ((rI μ4 61 0 13) + (imx 0 (((rI μ4 61 0 (ix (28 + a1))) + a2) - (rI μ4 61 0 (ix (16 + a1))))))) (pc' := 112) [(.aload_n 0, 0, 0, 0, 0), (.getfield 35, 12, 20, 0, 0), (.bipush 28, 0, 0, 28, 0), (.iload_n 1, 0, 0, 0, 0), (.iadd, 0, 0, 0, 0), (.aload_n 0, 0, 0, 0, 0), (.getfield 35, 12, 20, 0, 0), (.bipush 16, 0, 0, 16, 0), (.iload_n 1, 0, 0, 0, 0), (.iadd, 0, 0, 0, 0)] (by decide +kernel) rfl rfl ?_
            refine sS_ial oI rfl (n := 1740) (j := (ix (16 + a1))) (by decide +kernel) rfl rfl rfl (fun _ => ?_)
            refine sBk (lo' := [(3, vi ((rI μ4 61 0 (ix (28 + a1))) + a2)), (0, vr 13 0), (1, vi a1), (2, vi a2)]) (st' := [vi ((rI μ4 61 0 (ix (28 + a1))) + a2), vi (rI (wI μ4 61 0 13 ((rI μ4 61 0 13) + (imx 0 (((rI μ4 61 0 (ix (28 + a1))) + a2) - (rI μ4 61 0 (ix (16 + a1))))))) 61 0 (ix (16 + a1))), vi (28 + a1), vr 61 0]) (μ' := wI μ4 61 0 13 ((rI μ4 61 0 13) + (imx 0 (((rI μ4 61 0 (ix (28 + a1))) + a2) - (rI μ4 61 0 (ix (16 + a1))))))) (pc' := 114) [(.iload_n 3, 0, 0, 0, 0)] (by decide +kernel) rfl rfl ?_
            refine sMin (idx := 336) (p1 := 1911) (by decide +kernel) (by decide) (Nat.le_of_ble_eq_true rfl) ?_
            refine sS_ias oI rfl (n := 1740) (j := (ix (28 + a1))) (by decide +kernel) rfl rfl rfl (fun _ => ?_)
            refine sBk (lo' := [(3, vi ((rI μ4 61 0 (ix (28 + a1))) + a2)), (0, vr 13 0), (1, vi a1), (2, vi a2)]) (st' := [vi (28 + a1), vr 61 0]) (μ' := wI (wI μ4 61 0 13 ((rI μ4 61 0 13) + (imx 0 (((rI μ4 61 0 (ix (28 + a1))) + a2) - (rI μ4 61 0 (ix (16 + a1))))))) 61 0 (ix (28 + a1)) (imn (rI (wI μ4 61 0 13 ((rI μ4 61 0 13) + (imx 0 (((rI μ4 61 0 (ix (28 + a1))) + a2) - (rI μ4 61 0 (ix (16 + a1))))))) 61 0 (ix (16 + a1))) ((rI μ4 61 0 (ix (28 + a1))) + a2))) (pc' := 126) [(.aload_n 0, 0, 0, 0, 0), (.getfield 35, 12, 20, 0, 0), (.bipush 28, 0, 0, 28, 0), (.iload_n 1, 0, 0, 0, 0), (.iadd, 0, 0, 0, 0)] (by decide +kernel) rfl rfl ?_
            refine sS_ial oI rfl (n := 1740) (j := (ix (28 + a1))) (by decide +kernel) rfl rfl rfl (fun _ => ?_)
            exact sRi (by decide +kernel) (fun h => by cases h)
          · refine sBk (lo' := [(3, vi ((rI μ4 61 0 (ix (28 + a1))) + a2)), (0, vr 13 0), (1, vi a1), (2, vi a2)]) (st' := [vi 9, vr 13 0]) (μ' := μ4) (pc' := 67) [(.aload_n 0, 0, 0, 0, 0), (.bipush 9, 0, 0, 9, 0)] (by decide +kernel) rfl rfl ?_
            refine sCvI oI rfl (ci := 12) (q := (13, 0)) (avs := [vi 9]) (rest := []) (tX12_refuse 9 μ4) (by decide) (by decide +kernel) lk_12_325 yv_X12_refuse rfl (by decide) rfl rfl rfl (Nat.le_of_ble_eq_true rfl) (fun x5 μ6 => ?_)
            exact sRi (by decide +kernel) (fun h => by cases h)
        · refine sWk (lo' := [(0, vr 13 0)]) [0] rfl ?_
          exact X12_bring_J42_ok μ4
    · refine sBk (lo' := [(0, vr 13 0), (1, vi a1), (2, vi a2)]) (st' := [vi 2, vr 13 0]) (μ' := μ2) (pc' := 20) [(.aload_n 0, 0, 0, 0, 0), (.iconst 2, 0, 0, 2, 0)] (by decide +kernel) rfl rfl ?_
      refine sCvI oI rfl (ci := 12) (q := (13, 0)) (avs := [vi 2]) (rest := []) (tX12_refuse 2 μ2) (by decide) (by decide +kernel) lk_12_325 yv_X12_refuse rfl (by decide) rfl rfl rfl (Nat.le_of_ble_eq_true rfl) (fun x7 μ8 => ?_)
      exact sRi (by decide +kernel) (fun h => by cases h)
/-! ClockRiverModel.rule -/
def X12_rule_J58 (μ : sM) : Option (Int32 × sM) :=
  bI (X12_no 5 μ) fun x1 μ2 =>
    if x1 = 0 ∨ x1 = 1 then some (x1, μ2) else none
theorem X12_rule_J58_ok (μ : sM) : sOk 12 cX12_rule 3 2 true 58 [(0, vr 13 0)] [] μ (oI (X12_rule_J58 μ)) := by
  unfold X12_rule_J58
  refine sBk (lo' := [(0, vr 13 0)]) (st' := [vi 5, vr 13 0]) (μ' := μ) (pc' := 60) [(.aload_n 0, 0, 0, 0, 0), (.iconst 5, 0, 0, 5, 0)] (by decide +kernel) rfl rfl ?_
  refine sCvI oI rfl (ci := 12) (q := (13, 0)) (avs := [vi 5]) (rest := []) (tX12_no 5 μ) (by decide) (by decide +kernel) lk_12_87 yv_X12_no rfl (by decide) rfl rfl rfl (Nat.le_of_ble_eq_true rfl) (fun x1 μ2 => ?_)
  exact sCk oI rfl (fun h => sRi (by decide +kernel) (fun _ => h))
def X12_rule_J52 (v1 : Int32) (v2 : Int32) (s0 : Int64) (s1 : Int64) (s2 : Int64) (μ : sM) : Option (Int32 × sM) :=
  bI (X12_isIn s2 s1 s0 μ) fun x1 μ2 =>
    if x1 = 0 then
      X12_rule_J58 μ2
    else
      if inb v1 1740 = true then
        some (1, wI μ2 61 0 (ix v1) v2)
      else none
theorem X12_rule_J52_ok (v1 : Int32) (v2 : Int32) (s0 : Int64) (s1 : Int64) (s2 : Int64) (μ : sM) : sOk 12 cX12_rule 3 2 true 52 [(0, vr 13 0), (1, vi v1), (2, vi v2)] [vl s0, vl s1, vl s2] μ (oI (X12_rule_J52 v1 v2 s0 s1 s2 μ)) := by
  unfold X12_rule_J52
  refine sCsI oI rfl (avs := [vl s2, vl s1, vl s0]) (rest := []) (tX12_isIn s2 s1 s0 μ) (by decide) (by decide +kernel) lk_12_107 ys_X12_isIn rfl rfl (Nat.le_of_ble_eq_true rfl) (fun x1 μ2 => ?_)
  refine sIf_ne oI (off := 9) (tgt := 64) (by decide +kernel) (by decide) (fun _ => ?_) (fun _ => ?_)
  · refine sBk (lo' := [(0, vr 13 0), (1, vi v1), (2, vi v2)]) (st' := [vi v2, vi v1, vr 61 0]) (μ' := μ2) (pc' := 70) [(.aload_n 0, 0, 0, 0, 0), (.getfield 35, 12, 20, 0, 0), (.iload_n 1, 0, 0, 0, 0), (.iload_n 2, 0, 0, 0, 0)] (by decide +kernel) rfl rfl ?_
    refine sS_ias oI rfl (n := 1740) (j := (ix v1)) (by decide +kernel) rfl rfl rfl (fun _ => ?_)
    refine sBk (lo' := [(0, vr 13 0), (1, vi v1), (2, vi v2)]) (st' := [vi 1]) (μ' := wI μ2 61 0 (ix v1) v2) (pc' := 72) [(.iconst 1, 0, 0, 1, 0)] (by decide +kernel) rfl rfl ?_
    exact sRi (by decide +kernel) (fun _ => Or.inr rfl)
  · refine sWk (lo' := [(0, vr 13 0)]) [0] rfl ?_
    exact X12_rule_J58_ok μ2
def X12_rule (a1 : Int32) (a2 : Int32) (μ : sM) : Option (Int32 × sM) :=
  bI (X12_isIn (Int32.toInt64 a1) 3 5 (wI (wI μ 13 0 1 0) 13 0 0 0)) fun x1 μ2 =>
    if x1 = 0 then
      X12_rule_J58 μ2
    else
      if a1 = 3 then
        X12_rule_J52 a1 a2 9 0 (Int32.toInt64 a2) μ2
      else
        if a1 = 4 then
          X12_rule_J52 a1 a2 99 0 (Int32.toInt64 a2) μ2
        else
          X12_rule_J52 a1 a2 16 0 (Int32.toInt64 a2) μ2
theorem tX12_rule (a1 : Int32) (a2 : Int32) (μ : sM) : sMt yX12_rule cX12_rule 3 (some .boolean) 2 [vr 13 0, vi a1, vi a2] μ (oI (X12_rule a1 a2 μ)) := by
  refine sMt_of (own := 12) (bl := true) (by decide +kernel) rfl (Nat.le_of_ble_eq_true rfl) (fun r ρ h => ?_) ?_
  · obtain ⟨q, -, hq⟩ := Option.map_eq_some_iff.mp h
    cases hq
    exact Or.inr ⟨rfl, rfl⟩
  · unfold X12_rule
    show sOk 12 cX12_rule 3 2 true 0 [(0, vr 13 0), (1, vi a1), (2, vi a2)] [] μ _
    refine sBk (lo' := [(0, vr 13 0), (1, vi a1), (2, vi a2)]) (st' := [vl 5, vl 3, vl (Int32.toInt64 a1)]) (μ' := wI (wI μ 13 0 1 0) 13 0 0 0) (pc' := 18) [(.aload_n 0, 0, 0, 0, 0), (.iconst 0, 0, 0, 0, 0), (.putfield 72, 12, 1, 0, 0), (.aload_n 0, 0, 0, 0, 0), (.iconst 0, 0, 0, 0, 0), (.putfield 75, 12, 0, 0, 0), (.iload_n 1, 0, 0, 0, 0), (.i2l, 0, 0, 0, 0), (.ldc2_w 105, 0, 0, 0, 3), (.ldc2_w 334, 0, 0, 0, 5)] (by decide +kernel) rfl rfl ?_
    refine sCsI oI rfl (avs := [vl (Int32.toInt64 a1), vl 3, vl 5]) (rest := []) (tX12_isIn (Int32.toInt64 a1) 3 5 (wI (wI μ 13 0 1 0) 13 0 0 0)) (by decide) (by decide +kernel) lk_12_107 ys_X12_isIn rfl rfl (Nat.le_of_ble_eq_true rfl) (fun x1 μ2 => ?_)
    refine sIf_eq oI (off := 37) (tgt := 58) (by decide +kernel) (by decide) (fun _ => ?_) (fun _ => ?_)
    · refine sWk (lo' := [(0, vr 13 0)]) [0] rfl ?_
      exact X12_rule_J58_ok μ2
    · refine sBk (lo' := [(0, vr 13 0), (1, vi a1), (2, vi a2)]) (st' := [vi 3, vi a1, vl 0, vl (Int32.toInt64 a2)]) (μ' := μ2) (pc' := 29) [(.iload_n 2, 0, 0, 0, 0), (.i2l, 0, 0, 0, 0), (.lconst 0, 0, 0, 0, 0), (.iload_n 1, 0, 0, 0, 0), (.iconst 3, 0, 0, 3, 0)] (by decide +kernel) rfl rfl ?_
      refine sIc_ne oI (off := 9) (tgt := 38) (by decide +kernel) (by decide) (fun _ => ?_) (fun _ => ?_)
      · refine sBk (lo' := [(0, vr 13 0), (1, vi a1), (2, vi a2)]) (st' := [vi 4, vi a1, vl 0, vl (Int32.toInt64 a2)]) (μ' := μ2) (pc' := 40) [(.iload_n 1, 0, 0, 0, 0), (.iconst 4, 0, 0, 4, 0)] (by decide +kernel) rfl rfl ?_
        refine sIc_ne oI (off := 9) (tgt := 49) (by decide +kernel) (by decide) (fun _ => ?_) (fun _ => ?_)
        · refine sBk (lo' := [(0, vr 13 0), (1, vi a1), (2, vi a2)]) (st' := [vl 16, vl 0, vl (Int32.toInt64 a2)]) (μ' := μ2) (pc' := 52) [(.ldc2_w 406, 0, 0, 0, 16)] (by decide +kernel) rfl rfl ?_
          exact X12_rule_J52_ok a1 a2 16 0 (Int32.toInt64 a2) μ2
        · refine sBk (lo' := [(0, vr 13 0), (1, vi a1), (2, vi a2)]) (st' := [vl 99, vl 0, vl (Int32.toInt64 a2)]) (μ' := μ2) (pc' := 46) [(.ldc2_w 395, 0, 0, 0, 99)] (by decide +kernel) rfl rfl ?_
          refine sGt (off := 6) (tgt := 52) (by decide +kernel) (by decide) ?_
          exact X12_rule_J52_ok a1 a2 99 0 (Int32.toInt64 a2) μ2
      · refine sBk (lo' := [(0, vr 13 0), (1, vi a1), (2, vi a2)]) (st' := [vl 9, vl 0, vl (Int32.toInt64 a2)]) (μ' := μ2) (pc' := 35) [(.ldc2_w 404, 0, 0, 0, 9)] (by decide +kernel) rfl rfl ?_
        refine sGt (off := 17) (tgt := 52) (by decide +kernel) (by decide) ?_
        exact X12_rule_J52_ok a1 a2 9 0 (Int32.toInt64 a2) μ2
/-! ClockRiverModel.build -/
def X12_build (a1 : Int32) (a2 : Int32) (μ : sM) : Option (Int32 × sM) :=
  bI (X12_isReachAt a1 (wI (wI μ 13 0 1 0) 13 0 0 0)) fun x1 μ2 =>
    if x1 = 0 then
      bI (X12_refuse 2 μ2) fun x9 μ10 =>
        some (x9, μ10)
    else
      bI (X12_isIn (Int32.toInt64 a2) 1 99 μ2) fun x3 μ4 =>
        if x3 = 0 then
          bI (X12_refuse 5 μ4) fun x7 μ8 =>
            some (x7, μ8)
        else
          if (rI μ4 61 0 1) = 6 then
            bI (X12_refuse 7 μ4) fun x5 μ6 =>
              some (x5, μ6)
          else
            if inb (34 + (rI μ4 61 0 1)) 1740 = true then
              if inb (40 + (rI μ4 61 0 1)) 1740 = true then
                if inb (46 + (rI μ4 61 0 1)) 1740 = true then
                  if inb (6 + (rI μ4 61 0 1)) 90 = true then
                    some ((rI μ4 61 0 1), wI (wL (wI (wI (wI μ4 61 0 (ix (34 + (rI μ4 61 0 1))) a1) 61 0 (ix (40 + (rI μ4 61 0 1))) a2) 61 0 (ix (46 + (rI μ4 61 0 1))) 0) 64 0 (ix (6 + (rI μ4 61 0 1))) 0) 61 0 1 ((rI (wI (wI (wI μ4 61 0 (ix (34 + (rI μ4 61 0 1))) a1) 61 0 (ix (40 + (rI μ4 61 0 1))) a2) 61 0 (ix (46 + (rI μ4 61 0 1))) 0) 61 0 1) + 1))
                  else none
                else none
              else none
            else none
theorem tX12_build (a1 : Int32) (a2 : Int32) (μ : sM) : sMt yX12_build cX12_build 4 (some .int) 3 [vr 13 0, vi a1, vi a2] μ (oI (X12_build a1 a2 μ)) := by
  refine sMt_of (own := 12) (bl := false) (by decide +kernel) rfl (Nat.le_of_ble_eq_true rfl) (fun r ρ h => ?_) ?_
  · obtain ⟨q, -, hq⟩ := Option.map_eq_some_iff.mp h
    cases hq
    exact Or.inl rfl
  · unfold X12_build
    show sOk 12 cX12_build 4 3 false 0 [(0, vr 13 0), (1, vi a1), (2, vi a2)] [] μ _
    refine sBk (lo' := [(0, vr 13 0), (1, vi a1), (2, vi a2)]) (st' := [vi a1, vr 13 0]) (μ' := wI (wI μ 13 0 1 0) 13 0 0 0) (pc' := 12) [(.aload_n 0, 0, 0, 0, 0), (.iconst 0, 0, 0, 0, 0), (.putfield 72, 12, 1, 0, 0), (.aload_n 0, 0, 0, 0, 0), (.iconst 0, 0, 0, 0, 0), (.putfield 75, 12, 0, 0, 0), (.aload_n 0, 0, 0, 0, 0), (.iload_n 1, 0, 0, 0, 0)] (by decide +kernel) rfl rfl ?_
    refine sCvI oI rfl (ci := 12) (q := (13, 0)) (avs := [vi a1]) (rest := []) (tX12_isReachAt a1 (wI (wI μ 13 0 1 0) 13 0 0 0)) (by decide) (by decide +kernel) lk_12_339 yv_X12_isReachAt rfl (by decide) rfl rfl rfl (Nat.le_of_ble_eq_true rfl) (fun x1 μ2 => ?_)
    refine sIf_ne oI (off := 9) (tgt := 24) (by decide +kernel) (by decide) (fun _ => ?_) (fun _ => ?_)
    · refine sBk (lo' := [(0, vr 13 0), (1, vi a1), (2, vi a2)]) (st' := [vl 99, vl 1, vl (Int32.toInt64 a2)]) (μ' := μ2) (pc' := 30) [(.iload_n 2, 0, 0, 0, 0), (.i2l, 0, 0, 0, 0), (.lconst 1, 0, 0, 0, 1), (.ldc2_w 395, 0, 0, 0, 99)] (by decide +kernel) rfl rfl ?_
      refine sCsI oI rfl (avs := [vl (Int32.toInt64 a2), vl 1, vl 99]) (rest := []) (tX12_isIn (Int32.toInt64 a2) 1 99 μ2) (by decide) (by decide +kernel) lk_12_107 ys_X12_isIn rfl rfl (Nat.le_of_ble_eq_true rfl) (fun x3 μ4 => ?_)
      refine sIf_ne oI (off := 9) (tgt := 42) (by decide +kernel) (by decide) (fun _ => ?_) (fun _ => ?_)
      · refine sBk (lo' := [(0, vr 13 0), (1, vi a1), (2, vi a2)]) (st' := [vi 1, vr 61 0]) (μ' := μ4) (pc' := 47) [(.aload_n 0, 0, 0, 0, 0), (.getfield 35, 12, 20, 0, 0), (.iconst 1, 0, 0, 1, 0)] (by decide +kernel) rfl rfl ?_
        refine sC_ial (n := 1740) (j := 1) (by decide +kernel) (by decide +kernel) rfl rfl (by decide +kernel) ?_
        refine sBk (lo' := [(3, vi (rI μ4 61 0 1)), (0, vr 13 0), (1, vi a1), (2, vi a2)]) (st' := [vi 6, vi (rI μ4 61 0 1)]) (μ' := μ4) (pc' := 52) [(.istore_n 3, 0, 0, 0, 0), (.iload_n 3, 0, 0, 0, 0), (.bipush 6, 0, 0, 6, 0)] (by decide +kernel) rfl rfl ?_
        refine sIc_ne oI (off := 10) (tgt := 62) (by decide +kernel) (by decide) (fun _ => ?_) (fun _ => ?_)
        · refine sBk (lo' := [(3, vi (rI μ4 61 0 1)), (0, vr 13 0), (1, vi a1), (2, vi a2)]) (st' := [vi a1, vi (34 + (rI μ4 61 0 1)), vr 61 0]) (μ' := μ4) (pc' := 71) [(.aload_n 0, 0, 0, 0, 0), (.getfield 35, 12, 20, 0, 0), (.bipush 34, 0, 0, 34, 0), (.iload_n 3, 0, 0, 0, 0), (.iadd, 0, 0, 0, 0), (.iload_n 1, 0, 0, 0, 0)] (by decide +kernel) rfl rfl ?_
          refine sS_ias oI rfl (n := 1740) (j := (ix (34 + (rI μ4 61 0 1)))) (by decide +kernel) rfl rfl rfl (fun _ => ?_)
          refine sBk (lo' := [(3, vi (rI μ4 61 0 1)), (0, vr 13 0), (1, vi a1), (2, vi a2)]) (st' := [vi a2, vi (40 + (rI μ4 61 0 1)), vr 61 0]) (μ' := wI μ4 61 0 (ix (34 + (rI μ4 61 0 1))) a1) (pc' := 81) [(.aload_n 0, 0, 0, 0, 0), (.getfield 35, 12, 20, 0, 0), (.bipush 40, 0, 0, 40, 0), (.iload_n 3, 0, 0, 0, 0), (.iadd, 0, 0, 0, 0), (.iload_n 2, 0, 0, 0, 0)] (by decide +kernel) rfl rfl ?_
          refine sS_ias oI rfl (n := 1740) (j := (ix (40 + (rI μ4 61 0 1)))) (by decide +kernel) rfl rfl rfl (fun _ => ?_)
          refine sBk (lo' := [(3, vi (rI μ4 61 0 1)), (0, vr 13 0), (1, vi a1), (2, vi a2)]) (st' := [vi 0, vi (46 + (rI μ4 61 0 1)), vr 61 0]) (μ' := wI (wI μ4 61 0 (ix (34 + (rI μ4 61 0 1))) a1) 61 0 (ix (40 + (rI μ4 61 0 1))) a2) (pc' := 91) [(.aload_n 0, 0, 0, 0, 0), (.getfield 35, 12, 20, 0, 0), (.bipush 46, 0, 0, 46, 0), (.iload_n 3, 0, 0, 0, 0), (.iadd, 0, 0, 0, 0), (.iconst 0, 0, 0, 0, 0)] (by decide +kernel) rfl rfl ?_
          refine sS_ias oI rfl (n := 1740) (j := (ix (46 + (rI μ4 61 0 1)))) (by decide +kernel) rfl rfl rfl (fun _ => ?_)
          refine sBk (lo' := [(3, vi (rI μ4 61 0 1)), (0, vr 13 0), (1, vi a1), (2, vi a2)]) (st' := [vl 0, vi (6 + (rI μ4 61 0 1)), vr 64 0]) (μ' := wI (wI (wI μ4 61 0 (ix (34 + (rI μ4 61 0 1))) a1) 61 0 (ix (40 + (rI μ4 61 0 1))) a2) 61 0 (ix (46 + (rI μ4 61 0 1))) 0) (pc' := 101) [(.aload_n 0, 0, 0, 0, 0), (.getfield 44, 12, 23, 0, 0), (.bipush 6, 0, 0, 6, 0), (.iload_n 3, 0, 0, 0, 0), (.iadd, 0, 0, 0, 0), (.lconst 0, 0, 0, 0, 0)] (by decide +kernel) rfl rfl ?_
          refine sS_las oI rfl (n := 90) (j := (ix (6 + (rI μ4 61 0 1)))) (by decide +kernel) rfl rfl rfl (fun _ => ?_)
          refine sBk (lo' := [(3, vi (rI μ4 61 0 1)), (0, vr 13 0), (1, vi a1), (2, vi a2)]) (st' := [vi 1, vr 61 0, vi 1, vr 61 0]) (μ' := wL (wI (wI (wI μ4 61 0 (ix (34 + (rI μ4 61 0 1))) a1) 61 0 (ix (40 + (rI μ4 61 0 1))) a2) 61 0 (ix (46 + (rI μ4 61 0 1))) 0) 64 0 (ix (6 + (rI μ4 61 0 1))) 0) (pc' := 108) [(.aload_n 0, 0, 0, 0, 0), (.getfield 35, 12, 20, 0, 0), (.iconst 1, 0, 0, 1, 0), (.dup2, 0, 0, 0, 0)] (by decide +kernel) rfl rfl ?_
          refine sC_ial (n := 1740) (j := 1) (by decide +kernel) (by decide +kernel) rfl rfl (by decide +kernel) ?_
          refine sBk (lo' := [(3, vi (rI μ4 61 0 1)), (0, vr 13 0), (1, vi a1), (2, vi a2)]) (st' := [vi ((rI (wI (wI (wI μ4 61 0 (ix (34 + (rI μ4 61 0 1))) a1) 61 0 (ix (40 + (rI μ4 61 0 1))) a2) 61 0 (ix (46 + (rI μ4 61 0 1))) 0) 61 0 1) + 1), vi 1, vr 61 0]) (μ' := wL (wI (wI (wI μ4 61 0 (ix (34 + (rI μ4 61 0 1))) a1) 61 0 (ix (40 + (rI μ4 61 0 1))) a2) 61 0 (ix (46 + (rI μ4 61 0 1))) 0) 64 0 (ix (6 + (rI μ4 61 0 1))) 0) (pc' := 111) [(.iconst 1, 0, 0, 1, 0), (.iadd, 0, 0, 0, 0)] (by decide +kernel) rfl rfl ?_
          refine sC_ias (n := 1740) (j := 1) (by decide +kernel) (by decide +kernel) rfl rfl (by decide +kernel) ?_
          refine sBk (lo' := [(3, vi (rI μ4 61 0 1)), (0, vr 13 0), (1, vi a1), (2, vi a2)]) (st' := [vi (rI μ4 61 0 1)]) (μ' := wI (wL (wI (wI (wI μ4 61 0 (ix (34 + (rI μ4 61 0 1))) a1) 61 0 (ix (40 + (rI μ4 61 0 1))) a2) 61 0 (ix (46 + (rI μ4 61 0 1))) 0) 64 0 (ix (6 + (rI μ4 61 0 1))) 0) 61 0 1 ((rI (wI (wI (wI μ4 61 0 (ix (34 + (rI μ4 61 0 1))) a1) 61 0 (ix (40 + (rI μ4 61 0 1))) a2) 61 0 (ix (46 + (rI μ4 61 0 1))) 0) 61 0 1) + 1)) (pc' := 113) [(.iload_n 3, 0, 0, 0, 0)] (by decide +kernel) rfl rfl ?_
          exact sRi (by decide +kernel) (fun h => by cases h)
        · refine sBk (lo' := [(3, vi (rI μ4 61 0 1)), (0, vr 13 0), (1, vi a1), (2, vi a2)]) (st' := [vi 7, vr 13 0]) (μ' := μ4) (pc' := 58) [(.aload_n 0, 0, 0, 0, 0), (.bipush 7, 0, 0, 7, 0)] (by decide +kernel) rfl rfl ?_
          refine sCvI oI rfl (ci := 12) (q := (13, 0)) (avs := [vi 7]) (rest := []) (tX12_refuse 7 μ4) (by decide) (by decide +kernel) lk_12_325 yv_X12_refuse rfl (by decide) rfl rfl rfl (Nat.le_of_ble_eq_true rfl) (fun x5 μ6 => ?_)
          exact sRi (by decide +kernel) (fun h => by cases h)
      · refine sBk (lo' := [(0, vr 13 0), (1, vi a1), (2, vi a2)]) (st' := [vi 5, vr 13 0]) (μ' := μ4) (pc' := 38) [(.aload_n 0, 0, 0, 0, 0), (.iconst 5, 0, 0, 5, 0)] (by decide +kernel) rfl rfl ?_
        refine sCvI oI rfl (ci := 12) (q := (13, 0)) (avs := [vi 5]) (rest := []) (tX12_refuse 5 μ4) (by decide) (by decide +kernel) lk_12_325 yv_X12_refuse rfl (by decide) rfl rfl rfl (Nat.le_of_ble_eq_true rfl) (fun x7 μ8 => ?_)
        exact sRi (by decide +kernel) (fun h => by cases h)
    · refine sBk (lo' := [(0, vr 13 0), (1, vi a1), (2, vi a2)]) (st' := [vi 2, vr 13 0]) (μ' := μ2) (pc' := 20) [(.aload_n 0, 0, 0, 0, 0), (.iconst 2, 0, 0, 2, 0)] (by decide +kernel) rfl rfl ?_
      refine sCvI oI rfl (ci := 12) (q := (13, 0)) (avs := [vi 2]) (rest := []) (tX12_refuse 2 μ2) (by decide) (by decide +kernel) lk_12_325 yv_X12_refuse rfl (by decide) rfl rfl rfl (Nat.le_of_ble_eq_true rfl) (fun x9 μ10 => ?_)
      exact sRi (by decide +kernel) (fun h => by cases h)
/-! ClockRiverModel.train -/
def X12_train (a1 : Int32) (a2 : Int32) (μ : sM) : Option (Int32 × sM) :=
  bI (X12_isWinderAt a1 (wI (wI μ 13 0 1 0) 13 0 0 0)) fun x1 μ2 =>
    if x1 = 0 then
      bI (X12_no 2 μ2) fun x7 μ8 =>
        if x7 = 0 ∨ x7 = 1 then some (x7, μ8) else none
    else
      bI (X12_isIn (Int32.toInt64 a2) 1 40 μ2) fun x3 μ4 =>
        if x3 = 0 then
          bI (X12_no 5 μ4) fun x5 μ6 =>
            if x5 = 0 ∨ x5 = 1 then some (x5, μ6) else none
        else
          if inb (52 + a1) 1740 = true then
            some (1, wI μ4 61 0 (ix (52 + a1)) a2)
          else none
theorem tX12_train (a1 : Int32) (a2 : Int32) (μ : sM) : sMt yX12_train cX12_train 3 (some .boolean) 3 [vr 13 0, vi a1, vi a2] μ (oI (X12_train a1 a2 μ)) := by
  refine sMt_of (own := 12) (bl := true) (by decide +kernel) rfl (Nat.le_of_ble_eq_true rfl) (fun r ρ h => ?_) ?_
  · obtain ⟨q, -, hq⟩ := Option.map_eq_some_iff.mp h
    cases hq
    exact Or.inr ⟨rfl, rfl⟩
  · unfold X12_train
    show sOk 12 cX12_train 3 3 true 0 [(0, vr 13 0), (1, vi a1), (2, vi a2)] [] μ _
    refine sBk (lo' := [(0, vr 13 0), (1, vi a1), (2, vi a2)]) (st' := [vi a1, vr 13 0]) (μ' := wI (wI μ 13 0 1 0) 13 0 0 0) (pc' := 12) [(.aload_n 0, 0, 0, 0, 0), (.iconst 0, 0, 0, 0, 0), (.putfield 72, 12, 1, 0, 0), (.aload_n 0, 0, 0, 0, 0), (.iconst 0, 0, 0, 0, 0), (.putfield 75, 12, 0, 0, 0), (.aload_n 0, 0, 0, 0, 0), (.iload_n 1, 0, 0, 0, 0)] (by decide +kernel) rfl rfl ?_
    refine sCvI oI rfl (ci := 12) (q := (13, 0)) (avs := [vi a1]) (rest := []) (tX12_isWinderAt a1 (wI (wI μ 13 0 1 0) 13 0 0 0)) (by decide) (by decide +kernel) lk_12_355 yv_X12_isWinderAt rfl (by decide) rfl rfl rfl (Nat.le_of_ble_eq_true rfl) (fun x1 μ2 => ?_)
    refine sIf_ne oI (off := 9) (tgt := 24) (by decide +kernel) (by decide) (fun _ => ?_) (fun _ => ?_)
    · refine sBk (lo' := [(0, vr 13 0), (1, vi a1), (2, vi a2)]) (st' := [vl 40, vl 1, vl (Int32.toInt64 a2)]) (μ' := μ2) (pc' := 30) [(.iload_n 2, 0, 0, 0, 0), (.i2l, 0, 0, 0, 0), (.lconst 1, 0, 0, 0, 1), (.ldc2_w 408, 0, 0, 0, 40)] (by decide +kernel) rfl rfl ?_
      refine sCsI oI rfl (avs := [vl (Int32.toInt64 a2), vl 1, vl 40]) (rest := []) (tX12_isIn (Int32.toInt64 a2) 1 40 μ2) (by decide) (by decide +kernel) lk_12_107 ys_X12_isIn rfl rfl (Nat.le_of_ble_eq_true rfl) (fun x3 μ4 => ?_)
      refine sIf_ne oI (off := 9) (tgt := 42) (by decide +kernel) (by decide) (fun _ => ?_) (fun _ => ?_)
      · refine sBk (lo' := [(0, vr 13 0), (1, vi a1), (2, vi a2)]) (st' := [vi a2, vi (52 + a1), vr 61 0]) (μ' := μ4) (pc' := 51) [(.aload_n 0, 0, 0, 0, 0), (.getfield 35, 12, 20, 0, 0), (.bipush 52, 0, 0, 52, 0), (.iload_n 1, 0, 0, 0, 0), (.iadd, 0, 0, 0, 0), (.iload_n 2, 0, 0, 0, 0)] (by decide +kernel) rfl rfl ?_
        refine sS_ias oI rfl (n := 1740) (j := (ix (52 + a1))) (by decide +kernel) rfl rfl rfl (fun _ => ?_)
        refine sBk (lo' := [(0, vr 13 0), (1, vi a1), (2, vi a2)]) (st' := [vi 1]) (μ' := wI μ4 61 0 (ix (52 + a1)) a2) (pc' := 53) [(.iconst 1, 0, 0, 1, 0)] (by decide +kernel) rfl rfl ?_
        exact sRi (by decide +kernel) (fun _ => Or.inr rfl)
      · refine sBk (lo' := [(0, vr 13 0), (1, vi a1), (2, vi a2)]) (st' := [vi 5, vr 13 0]) (μ' := μ4) (pc' := 38) [(.aload_n 0, 0, 0, 0, 0), (.iconst 5, 0, 0, 5, 0)] (by decide +kernel) rfl rfl ?_
        refine sCvI oI rfl (ci := 12) (q := (13, 0)) (avs := [vi 5]) (rest := []) (tX12_no 5 μ4) (by decide) (by decide +kernel) lk_12_87 yv_X12_no rfl (by decide) rfl rfl rfl (Nat.le_of_ble_eq_true rfl) (fun x5 μ6 => ?_)
        exact sCk oI rfl (fun h => sRi (by decide +kernel) (fun _ => h))
    · refine sBk (lo' := [(0, vr 13 0), (1, vi a1), (2, vi a2)]) (st' := [vi 2, vr 13 0]) (μ' := μ2) (pc' := 20) [(.aload_n 0, 0, 0, 0, 0), (.iconst 2, 0, 0, 2, 0)] (by decide +kernel) rfl rfl ?_
      refine sCvI oI rfl (ci := 12) (q := (13, 0)) (avs := [vi 2]) (rest := []) (tX12_no 2 μ2) (by decide) (by decide +kernel) lk_12_87 yv_X12_no rfl (by decide) rfl rfl rfl (Nat.le_of_ble_eq_true rfl) (fun x7 μ8 => ?_)
      exact sCk oI rfl (fun h => sRi (by decide +kernel) (fun _ => h))
/-! ClockRiverModel.isAhead -/
def X12_isAhead (a0 : Int32) (μ : sM) : Option (Int32 × sM) :=
  bI (X12_isIn (Int32.toInt64 a0) 0 500 μ) fun x1 μ2 =>
    if x1 = 0 ∨ x1 = 1 then some (x1, μ2) else none
theorem tX12_isAhead (a0 : Int32) (μ : sM) : sMt yX12_isAhead cX12_isAhead 1 (some .boolean) 2 [vi a0] μ (oI (X12_isAhead a0 μ)) := by
  refine sMt_of (own := 12) (bl := true) (by decide +kernel) rfl (Nat.le_of_ble_eq_true rfl) (fun r ρ h => ?_) ?_
  · obtain ⟨q, -, hq⟩ := Option.map_eq_some_iff.mp h
    cases hq
    exact Or.inr ⟨rfl, rfl⟩
  · unfold X12_isAhead
    show sOk 12 cX12_isAhead 1 2 true 0 [(0, vi a0)] [] μ _
    refine sBk (lo' := [(0, vi a0)]) (st' := [vl 500, vl 0, vl (Int32.toInt64 a0)]) (μ' := μ) (pc' := 6) [(.iload_n 0, 0, 0, 0, 0), (.i2l, 0, 0, 0, 0), (.lconst 0, 0, 0, 0, 0), (.ldc2_w 410, 0, 0, 0, 500)] (by decide +kernel) rfl rfl ?_
    refine sCsI oI rfl (avs := [vl (Int32.toInt64 a0), vl 0, vl 500]) (rest := []) (tX12_isIn (Int32.toInt64 a0) 0 500 μ) (by decide) (by decide +kernel) lk_12_107 ys_X12_isIn rfl rfl (Nat.le_of_ble_eq_true rfl) (fun x1 μ2 => ?_)
    exact sCk oI rfl (fun h => sRi (by decide +kernel) (fun _ => h))
/-! ClockRiverModel.puts -/
def X12_puts_L2 : Nat → Int32 → sM → Option sM
  | 0, _, _ => none
  | n + 1, v1, μ =>
    if 76 ≤ v1 then
      some μ
    else
      if inb v1 1740 = true then
        if inb v1 76 = true then
          X12_puts_L2 n (v1 + 1) (wI μ 62 0 (ix v1) (rI μ 61 0 (ix v1)))
        else none
      else none
theorem X12_puts_L2_ok : ∀ (n : Nat) (v1 : Int32) (μ : sM), sOk 12 cX12_puts 2 1 false 2 [(0, vr 13 0), (1, vi v1)] [] μ (oV (X12_puts_L2 n v1 μ)) := by
  intro n
  induction n with
  | zero =>
    intros
    exact sNo
  | succ n ih =>
    intro v1 μ
    unfold X12_puts_L2
    refine sBk (lo' := [(0, vr 13 0), (1, vi v1)]) (st' := [vi 76, vi v1]) (μ' := μ) (pc' := 5) [(.iload_n 1, 0, 0, 0, 0), (.bipush 76, 0, 0, 76, 0)] (by decide +kernel) rfl rfl ?_
    refine sIc_ge oV (off := 21) (tgt := 26) (by decide +kernel) (by decide) (fun _ => ?_) (fun _ => ?_)
    · exact sRv (by decide +kernel)
    · refine sBk (lo' := [(0, vr 13 0), (1, vi v1)]) (st' := [vi v1, vr 61 0, vi v1, vr 62 0]) (μ' := μ) (pc' := 18) [(.aload_n 0, 0, 0, 0, 0), (.getfield 38, 12, 21, 0, 0), (.iload_n 1, 0, 0, 0, 0), (.aload_n 0, 0, 0, 0, 0), (.getfield 35, 12, 20, 0, 0), (.iload_n 1, 0, 0, 0, 0)] (by decide +kernel) rfl rfl ?_
      refine sS_ial oV rfl (n := 1740) (j := (ix v1)) (by decide +kernel) rfl rfl rfl (fun _ => ?_)
      refine sS_ias oV rfl (n := 76) (j := (ix v1)) (by decide +kernel) rfl rfl rfl (fun _ => ?_)
      refine sBk (lo' := [(1, vi (v1 + 1)), (0, vr 13 0)]) (st' := []) (μ' := wI μ 62 0 (ix v1) (rI μ 61 0 (ix v1))) (pc' := 23) [(.iinc 1 1, 0, 0, 1, 0)] (by decide +kernel) rfl rfl ?_
      refine sGt (off := (-21)) (tgt := 2) (by decide +kernel) (by decide) ?_
      refine sWk (lo' := [(0, vr 13 0), (1, vi (v1 + 1))]) [1, 0] rfl ?_
      exact ih (v1 + 1) (wI μ 62 0 (ix v1) (rI μ 61 0 (ix v1)))
def X12_puts (μ : sM) : Option sM :=
  X12_puts_L2 fuN 0 μ
theorem tX12_puts (μ : sM) : sMt yX12_puts cX12_puts 2 none 1 [vr 13 0] μ (oV (X12_puts μ)) := by
  refine sMt_of (own := 12) (bl := false) (by decide +kernel) rfl (Nat.le_of_ble_eq_true rfl) (fun r ρ h => ?_) ?_
  · obtain ⟨q, -, hq⟩ := Option.map_eq_some_iff.mp h
    cases hq
    exact rfl
  · unfold X12_puts
    show sOk 12 cX12_puts 2 1 false 0 [(0, vr 13 0)] [] μ _
    refine sBk (lo' := [(1, vi 0), (0, vr 13 0)]) (st' := []) (μ' := μ) (pc' := 2) [(.iconst 0, 0, 0, 0, 0), (.istore_n 1, 0, 0, 0, 0)] (by decide +kernel) rfl rfl ?_
    refine sWk (lo' := [(0, vr 13 0), (1, vi 0)]) [1, 0] rfl ?_
    exact X12_puts_L2_ok fuN 0 μ
/-! ClockRiverModel.gives -/
def X12_gives_L2 : Nat → Int32 → sM → Option sM
  | 0, _, _ => none
  | n + 1, v1, μ =>
    if 76 ≤ v1 then
      some μ
    else
      if inb v1 76 = true then
        if inb v1 1740 = true then
          X12_gives_L2 n (v1 + 1) (wI μ 61 0 (ix v1) (rI μ 62 0 (ix v1)))
        else none
      else none
theorem X12_gives_L2_ok : ∀ (n : Nat) (v1 : Int32) (μ : sM), sOk 12 cX12_gives 2 1 false 2 [(0, vr 13 0), (1, vi v1)] [] μ (oV (X12_gives_L2 n v1 μ)) := by
  intro n
  induction n with
  | zero =>
    intros
    exact sNo
  | succ n ih =>
    intro v1 μ
    unfold X12_gives_L2
    refine sBk (lo' := [(0, vr 13 0), (1, vi v1)]) (st' := [vi 76, vi v1]) (μ' := μ) (pc' := 5) [(.iload_n 1, 0, 0, 0, 0), (.bipush 76, 0, 0, 76, 0)] (by decide +kernel) rfl rfl ?_
    refine sIc_ge oV (off := 21) (tgt := 26) (by decide +kernel) (by decide) (fun _ => ?_) (fun _ => ?_)
    · exact sRv (by decide +kernel)
    · refine sBk (lo' := [(0, vr 13 0), (1, vi v1)]) (st' := [vi v1, vr 62 0, vi v1, vr 61 0]) (μ' := μ) (pc' := 18) [(.aload_n 0, 0, 0, 0, 0), (.getfield 35, 12, 20, 0, 0), (.iload_n 1, 0, 0, 0, 0), (.aload_n 0, 0, 0, 0, 0), (.getfield 38, 12, 21, 0, 0), (.iload_n 1, 0, 0, 0, 0)] (by decide +kernel) rfl rfl ?_
      refine sS_ial oV rfl (n := 76) (j := (ix v1)) (by decide +kernel) rfl rfl rfl (fun _ => ?_)
      refine sS_ias oV rfl (n := 1740) (j := (ix v1)) (by decide +kernel) rfl rfl rfl (fun _ => ?_)
      refine sBk (lo' := [(1, vi (v1 + 1)), (0, vr 13 0)]) (st' := []) (μ' := wI μ 61 0 (ix v1) (rI μ 62 0 (ix v1))) (pc' := 23) [(.iinc 1 1, 0, 0, 1, 0)] (by decide +kernel) rfl rfl ?_
      refine sGt (off := (-21)) (tgt := 2) (by decide +kernel) (by decide) ?_
      refine sWk (lo' := [(0, vr 13 0), (1, vi (v1 + 1))]) [1, 0] rfl ?_
      exact ih (v1 + 1) (wI μ 61 0 (ix v1) (rI μ 62 0 (ix v1)))
def X12_gives (μ : sM) : Option sM :=
  X12_gives_L2 fuN 0 μ
theorem tX12_gives (μ : sM) : sMt yX12_gives cX12_gives 2 none 1 [vr 13 0] μ (oV (X12_gives μ)) := by
  refine sMt_of (own := 12) (bl := false) (by decide +kernel) rfl (Nat.le_of_ble_eq_true rfl) (fun r ρ h => ?_) ?_
  · obtain ⟨q, -, hq⟩ := Option.map_eq_some_iff.mp h
    cases hq
    exact rfl
  · unfold X12_gives
    show sOk 12 cX12_gives 2 1 false 0 [(0, vr 13 0)] [] μ _
    refine sBk (lo' := [(1, vi 0), (0, vr 13 0)]) (st' := []) (μ' := μ) (pc' := 2) [(.iconst 0, 0, 0, 0, 0), (.istore_n 1, 0, 0, 0, 0)] (by decide +kernel) rfl rfl ?_
    refine sWk (lo' := [(0, vr 13 0), (1, vi 0)]) [1, 0] rfl ?_
    exact X12_gives_L2_ok fuN 0 μ
/-! ClockRiverModel.cellIn -/
def X12_cellIn_L6 : Nat → Int32 → Int32 → Int32 → sM → Option (Int32 × sM)
  | 0, _, _, _, _ => none
  | n + 1, v1, v2, v3, μ =>
    if v2 ≤ v3 then
      if inb v1 1740 = true then
        bV (X12_gives μ) fun μ2 =>
          some ((rI μ 61 0 (ix v1)), μ2)
      else none
    else
      bI (X12_goesHour μ) fun x3 μ4 =>
        X12_cellIn_L6 n v1 v2 (v3 + 1) μ4
theorem X12_cellIn_L6_ok : ∀ (n : Nat) (v1 : Int32) (v2 : Int32) (v3 : Int32) (μ : sM), sOk 12 cX12_cellIn 4 3 false 6 [(0, vr 13 0), (1, vi v1), (2, vi v2), (3, vi v3)] [] μ (oI (X12_cellIn_L6 n v1 v2 v3 μ)) := by
  intro n
  induction n with
  | zero =>
    intros
    exact sNo
  | succ n ih =>
    intro v1 v2 v3 μ
    unfold X12_cellIn_L6
    refine sBk (lo' := [(0, vr 13 0), (1, vi v1), (2, vi v2), (3, vi v3)]) (st' := [vi v2, vi v3]) (μ' := μ) (pc' := 8) [(.iload_n 3, 0, 0, 0, 0), (.iload_n 2, 0, 0, 0, 0)] (by decide +kernel) rfl rfl ?_
    refine sIc_ge oI (off := 14) (tgt := 22) (by decide +kernel) (by decide) (fun _ => ?_) (fun _ => ?_)
    · refine sBk (lo' := [(0, vr 13 0), (1, vi v1), (2, vi v2), (3, vi v3)]) (st' := [vi v1, vr 61 0]) (μ' := μ) (pc' := 27) [(.aload_n 0, 0, 0, 0, 0), (.getfield 35, 12, 20, 0, 0), (.iload_n 1, 0, 0, 0, 0)] (by decide +kernel) rfl rfl ?_
      refine sS_ial oI rfl (n := 1740) (j := (ix v1)) (by decide +kernel) rfl rfl rfl (fun _ => ?_)
      refine sBk (lo' := [(3, vi (rI μ 61 0 (ix v1))), (0, vr 13 0), (1, vi v1), (2, vi v2)]) (st' := [vr 13 0]) (μ' := μ) (pc' := 30) [(.istore_n 3, 0, 0, 0, 0), (.aload_n 0, 0, 0, 0, 0)] (by decide +kernel) rfl rfl ?_
      refine sCvV oI rfl (ci := 12) (q := (13, 0)) (avs := []) (rest := []) (tX12_gives μ) (by decide) (by decide +kernel) lk_12_415 yv_X12_gives rfl (by decide) rfl rfl rfl (Nat.le_of_ble_eq_true rfl) (fun μ2 => ?_)
      refine sBk (lo' := [(3, vi (rI μ 61 0 (ix v1))), (0, vr 13 0), (1, vi v1), (2, vi v2)]) (st' := [vi (rI μ 61 0 (ix v1))]) (μ' := μ2) (pc' := 34) [(.iload_n 3, 0, 0, 0, 0)] (by decide +kernel) rfl rfl ?_
      exact sRi (by decide +kernel) (fun h => by cases h)
    · refine sBk (lo' := [(0, vr 13 0), (1, vi v1), (2, vi v2), (3, vi v3)]) (st' := [vr 13 0]) (μ' := μ) (pc' := 12) [(.aload_n 0, 0, 0, 0, 0)] (by decide +kernel) rfl rfl ?_
      refine sCvI oI rfl (ci := 12) (q := (13, 0)) (avs := []) (rest := []) (tX12_goesHour μ) (by decide) (by decide +kernel) lk_12_382 yv_X12_goesHour rfl (by decide) rfl rfl rfl (Nat.le_of_ble_eq_true rfl) (fun x3 μ4 => ?_)
      refine sBk (lo' := [(3, vi (v3 + 1)), (0, vr 13 0), (1, vi v1), (2, vi v2)]) (st' := []) (μ' := μ4) (pc' := 19) [(.pop, 0, 0, 0, 0), (.iinc 3 1, 0, 0, 1, 0)] (by decide +kernel) rfl rfl ?_
      refine sGt (off := (-13)) (tgt := 6) (by decide +kernel) (by decide) ?_
      refine sWk (lo' := [(0, vr 13 0), (1, vi v1), (2, vi v2), (3, vi (v3 + 1))]) [1, 2, 3, 0] rfl ?_
      exact ih v1 v2 (v3 + 1) μ4
def X12_cellIn (a1 : Int32) (a2 : Int32) (μ : sM) : Option (Int32 × sM) :=
  bV (X12_puts μ) fun μ2 =>
    X12_cellIn_L6 fuN a1 a2 0 μ2
theorem tX12_cellIn (a1 : Int32) (a2 : Int32) (μ : sM) : sMt yX12_cellIn cX12_cellIn 4 (some .int) 3 [vr 13 0, vi a1, vi a2] μ (oI (X12_cellIn a1 a2 μ)) := by
  refine sMt_of (own := 12) (bl := false) (by decide +kernel) rfl (Nat.le_of_ble_eq_true rfl) (fun r ρ h => ?_) ?_
  · obtain ⟨q, -, hq⟩ := Option.map_eq_some_iff.mp h
    cases hq
    exact Or.inl rfl
  · unfold X12_cellIn
    show sOk 12 cX12_cellIn 4 3 false 0 [(0, vr 13 0), (1, vi a1), (2, vi a2)] [] μ _
    refine sBk (lo' := [(0, vr 13 0), (1, vi a1), (2, vi a2)]) (st' := [vr 13 0]) (μ' := μ) (pc' := 1) [(.aload_n 0, 0, 0, 0, 0)] (by decide +kernel) rfl rfl ?_
    refine sCvV oI rfl (ci := 12) (q := (13, 0)) (avs := []) (rest := []) (tX12_puts μ) (by decide) (by decide +kernel) lk_12_412 yv_X12_puts rfl (by decide) rfl rfl rfl (Nat.le_of_ble_eq_true rfl) (fun μ2 => ?_)
    refine sBk (lo' := [(3, vi 0), (0, vr 13 0), (1, vi a1), (2, vi a2)]) (st' := []) (μ' := μ2) (pc' := 6) [(.iconst 0, 0, 0, 0, 0), (.istore_n 3, 0, 0, 0, 0)] (by decide +kernel) rfl rfl ?_
    refine sWk (lo' := [(0, vr 13 0), (1, vi a1), (2, vi a2), (3, vi 0)]) [1, 2, 3, 0] rfl ?_
    exact X12_cellIn_L6_ok fuN a1 a2 0 μ2
/-! ClockRiverModel.turnsIn -/
def X12_turnsIn (a1 : Int32) (μ : sM) : Option (Int32 × sM) :=
  bI (X12_isAhead a1 (wI (wI μ 13 0 1 0) 13 0 0 0)) fun x1 μ2 =>
    if x1 = 0 then
      bI (X12_refuse 5 μ2) fun x3 μ4 =>
        some (x3, μ4)
    else
      bI (X12_cellIn 9 a1 μ2) fun x5 μ6 =>
        some (x5, μ6)
theorem tX12_turnsIn (a1 : Int32) (μ : sM) : sMt yX12_turnsIn cX12_turnsIn 2 (some .int) 4 [vr 13 0, vi a1] μ (oI (X12_turnsIn a1 μ)) := by
  refine sMt_of (own := 12) (bl := false) (by decide +kernel) rfl (Nat.le_of_ble_eq_true rfl) (fun r ρ h => ?_) ?_
  · obtain ⟨q, -, hq⟩ := Option.map_eq_some_iff.mp h
    cases hq
    exact Or.inl rfl
  · unfold X12_turnsIn
    show sOk 12 cX12_turnsIn 2 4 false 0 [(0, vr 13 0), (1, vi a1)] [] μ _
    refine sBk (lo' := [(0, vr 13 0), (1, vi a1)]) (st' := [vi a1]) (μ' := wI (wI μ 13 0 1 0) 13 0 0 0) (pc' := 11) [(.aload_n 0, 0, 0, 0, 0), (.iconst 0, 0, 0, 0, 0), (.putfield 72, 12, 1, 0, 0), (.aload_n 0, 0, 0, 0, 0), (.iconst 0, 0, 0, 0, 0), (.putfield 75, 12, 0, 0, 0), (.iload_n 1, 0, 0, 0, 0)] (by decide +kernel) rfl rfl ?_
    refine sCsI oI rfl (avs := [vi a1]) (rest := []) (tX12_isAhead a1 (wI (wI μ 13 0 1 0) 13 0 0 0)) (by decide) (by decide +kernel) lk_12_418 ys_X12_isAhead rfl rfl (Nat.le_of_ble_eq_true rfl) (fun x1 μ2 => ?_)
    refine sIf_eq oI (off := 13) (tgt := 27) (by decide +kernel) (by decide) (fun _ => ?_) (fun _ => ?_)
    · refine sBk (lo' := [(0, vr 13 0), (1, vi a1)]) (st' := [vi 5, vr 13 0]) (μ' := μ2) (pc' := 29) [(.aload_n 0, 0, 0, 0, 0), (.iconst 5, 0, 0, 5, 0)] (by decide +kernel) rfl rfl ?_
      refine sCvI oI rfl (ci := 12) (q := (13, 0)) (avs := [vi 5]) (rest := []) (tX12_refuse 5 μ2) (by decide) (by decide +kernel) lk_12_325 yv_X12_refuse rfl (by decide) rfl rfl rfl (Nat.le_of_ble_eq_true rfl) (fun x3 μ4 => ?_)
      exact sRi (by decide +kernel) (fun h => by cases h)
    · refine sBk (lo' := [(0, vr 13 0), (1, vi a1)]) (st' := [vi a1, vi 9, vr 13 0]) (μ' := μ2) (pc' := 21) [(.aload_n 0, 0, 0, 0, 0), (.bipush 9, 0, 0, 9, 0), (.iload_n 1, 0, 0, 0, 0)] (by decide +kernel) rfl rfl ?_
      refine sCvI oI rfl (ci := 12) (q := (13, 0)) (avs := [vi 9, vi a1]) (rest := []) (tX12_cellIn 9 a1 μ2) (by decide) (by decide +kernel) lk_12_421 yv_X12_cellIn rfl (by decide) rfl rfl rfl (Nat.le_of_ble_eq_true rfl) (fun x5 μ6 => ?_)
      refine sGt (off := 8) (tgt := 32) (by decide +kernel) (by decide) ?_
      exact sRi (by decide +kernel) (fun h => by cases h)
/-! ClockRiverModel.storedIn -/
def X12_storedIn (a1 : Int32) (a2 : Int32) (μ : sM) : Option (Int32 × sM) :=
  bI (X12_isReachAt a1 (wI (wI μ 13 0 1 0) 13 0 0 0)) fun x1 μ2 =>
    if x1 = 0 then
      bI (X12_refuse 2 μ2) fun x9 μ10 =>
        some (x9, μ10)
    else
      bI (X12_isAhead a2 μ2) fun x3 μ4 =>
        if x3 = 0 then
          bI (X12_refuse 5 μ4) fun x5 μ6 =>
            some (x5, μ6)
        else
          bI (X12_cellIn (28 + a1) a2 μ4) fun x7 μ8 =>
            some (x7, μ8)
theorem tX12_storedIn (a1 : Int32) (a2 : Int32) (μ : sM) : sMt yX12_storedIn cX12_storedIn 3 (some .int) 4 [vr 13 0, vi a1, vi a2] μ (oI (X12_storedIn a1 a2 μ)) := by
  refine sMt_of (own := 12) (bl := false) (by decide +kernel) rfl (Nat.le_of_ble_eq_true rfl) (fun r ρ h => ?_) ?_
  · obtain ⟨q, -, hq⟩ := Option.map_eq_some_iff.mp h
    cases hq
    exact Or.inl rfl
  · unfold X12_storedIn
    show sOk 12 cX12_storedIn 3 4 false 0 [(0, vr 13 0), (1, vi a1), (2, vi a2)] [] μ _
    refine sBk (lo' := [(0, vr 13 0), (1, vi a1), (2, vi a2)]) (st' := [vi a1, vr 13 0]) (μ' := wI (wI μ 13 0 1 0) 13 0 0 0) (pc' := 12) [(.aload_n 0, 0, 0, 0, 0), (.iconst 0, 0, 0, 0, 0), (.putfield 72, 12, 1, 0, 0), (.aload_n 0, 0, 0, 0, 0), (.iconst 0, 0, 0, 0, 0), (.putfield 75, 12, 0, 0, 0), (.aload_n 0, 0, 0, 0, 0), (.iload_n 1, 0, 0, 0, 0)] (by decide +kernel) rfl rfl ?_
    refine sCvI oI rfl (ci := 12) (q := (13, 0)) (avs := [vi a1]) (rest := []) (tX12_isReachAt a1 (wI (wI μ 13 0 1 0) 13 0 0 0)) (by decide) (by decide +kernel) lk_12_339 yv_X12_isReachAt rfl (by decide) rfl rfl rfl (Nat.le_of_ble_eq_true rfl) (fun x1 μ2 => ?_)
    refine sIf_ne oI (off := 9) (tgt := 24) (by decide +kernel) (by decide) (fun _ => ?_) (fun _ => ?_)
    · refine sBk (lo' := [(0, vr 13 0), (1, vi a1), (2, vi a2)]) (st' := [vi a2]) (μ' := μ2) (pc' := 25) [(.iload_n 2, 0, 0, 0, 0)] (by decide +kernel) rfl rfl ?_
      refine sCsI oI rfl (avs := [vi a2]) (rest := []) (tX12_isAhead a2 μ2) (by decide) (by decide +kernel) lk_12_418 ys_X12_isAhead rfl rfl (Nat.le_of_ble_eq_true rfl) (fun x3 μ4 => ?_)
      refine sIf_eq oI (off := 15) (tgt := 43) (by decide +kernel) (by decide) (fun _ => ?_) (fun _ => ?_)
      · refine sBk (lo' := [(0, vr 13 0), (1, vi a1), (2, vi a2)]) (st' := [vi 5, vr 13 0]) (μ' := μ4) (pc' := 45) [(.aload_n 0, 0, 0, 0, 0), (.iconst 5, 0, 0, 5, 0)] (by decide +kernel) rfl rfl ?_
        refine sCvI oI rfl (ci := 12) (q := (13, 0)) (avs := [vi 5]) (rest := []) (tX12_refuse 5 μ4) (by decide) (by decide +kernel) lk_12_325 yv_X12_refuse rfl (by decide) rfl rfl rfl (Nat.le_of_ble_eq_true rfl) (fun x5 μ6 => ?_)
        exact sRi (by decide +kernel) (fun h => by cases h)
      · refine sBk (lo' := [(0, vr 13 0), (1, vi a1), (2, vi a2)]) (st' := [vi a2, vi (28 + a1), vr 13 0]) (μ' := μ4) (pc' := 37) [(.aload_n 0, 0, 0, 0, 0), (.bipush 28, 0, 0, 28, 0), (.iload_n 1, 0, 0, 0, 0), (.iadd, 0, 0, 0, 0), (.iload_n 2, 0, 0, 0, 0)] (by decide +kernel) rfl rfl ?_
        refine sCvI oI rfl (ci := 12) (q := (13, 0)) (avs := [vi (28 + a1), vi a2]) (rest := []) (tX12_cellIn (28 + a1) a2 μ4) (by decide) (by decide +kernel) lk_12_421 yv_X12_cellIn rfl (by decide) rfl rfl rfl (Nat.le_of_ble_eq_true rfl) (fun x7 μ8 => ?_)
        refine sGt (off := 8) (tgt := 48) (by decide +kernel) (by decide) ?_
        exact sRi (by decide +kernel) (fun h => by cases h)
    · refine sBk (lo' := [(0, vr 13 0), (1, vi a1), (2, vi a2)]) (st' := [vi 2, vr 13 0]) (μ' := μ2) (pc' := 20) [(.aload_n 0, 0, 0, 0, 0), (.iconst 2, 0, 0, 2, 0)] (by decide +kernel) rfl rfl ?_
      refine sCvI oI rfl (ci := 12) (q := (13, 0)) (avs := [vi 2]) (rest := []) (tX12_refuse 2 μ2) (by decide) (by decide +kernel) lk_12_325 yv_X12_refuse rfl (by decide) rfl rfl rfl (Nat.le_of_ble_eq_true rfl) (fun x9 μ10 => ?_)
      exact sRi (by decide +kernel) (fun h => by cases h)
/-! ClockRiverModel.groundIn -/
def X12_groundIn (a1 : Int32) (a2 : Int32) (μ : sM) : Option (Int32 × sM) :=
  bI (X12_isMillAt a1 (wI (wI μ 13 0 1 0) 13 0 0 0)) fun x1 μ2 =>
    if x1 = 0 then
      bI (X12_refuse 2 μ2) fun x9 μ10 =>
        some (x9, μ10)
    else
      bI (X12_isAhead a2 μ2) fun x3 μ4 =>
        if x3 = 0 then
          bI (X12_refuse 5 μ4) fun x5 μ6 =>
            some (x5, μ6)
        else
          bI (X12_cellIn (46 + a1) a2 μ4) fun x7 μ8 =>
            if inb (46 + a1) 1740 = true then
              some ((x7 - (rI μ8 61 0 (ix (46 + a1)))), μ8)
            else none
theorem tX12_groundIn (a1 : Int32) (a2 : Int32) (μ : sM) : sMt yX12_groundIn cX12_groundIn 3 (some .int) 4 [vr 13 0, vi a1, vi a2] μ (oI (X12_groundIn a1 a2 μ)) := by
  refine sMt_of (own := 12) (bl := false) (by decide +kernel) rfl (Nat.le_of_ble_eq_true rfl) (fun r ρ h => ?_) ?_
  · obtain ⟨q, -, hq⟩ := Option.map_eq_some_iff.mp h
    cases hq
    exact Or.inl rfl
  · unfold X12_groundIn
    show sOk 12 cX12_groundIn 3 4 false 0 [(0, vr 13 0), (1, vi a1), (2, vi a2)] [] μ _
    refine sBk (lo' := [(0, vr 13 0), (1, vi a1), (2, vi a2)]) (st' := [vi a1, vr 13 0]) (μ' := wI (wI μ 13 0 1 0) 13 0 0 0) (pc' := 12) [(.aload_n 0, 0, 0, 0, 0), (.iconst 0, 0, 0, 0, 0), (.putfield 72, 12, 1, 0, 0), (.aload_n 0, 0, 0, 0, 0), (.iconst 0, 0, 0, 0, 0), (.putfield 75, 12, 0, 0, 0), (.aload_n 0, 0, 0, 0, 0), (.iload_n 1, 0, 0, 0, 0)] (by decide +kernel) rfl rfl ?_
    refine sCvI oI rfl (ci := 12) (q := (13, 0)) (avs := [vi a1]) (rest := []) (tX12_isMillAt a1 (wI (wI μ 13 0 1 0) 13 0 0 0)) (by decide) (by decide +kernel) lk_12_350 yv_X12_isMillAt rfl (by decide) rfl rfl rfl (Nat.le_of_ble_eq_true rfl) (fun x1 μ2 => ?_)
    refine sIf_ne oI (off := 9) (tgt := 24) (by decide +kernel) (by decide) (fun _ => ?_) (fun _ => ?_)
    · refine sBk (lo' := [(0, vr 13 0), (1, vi a1), (2, vi a2)]) (st' := [vi a2]) (μ' := μ2) (pc' := 25) [(.iload_n 2, 0, 0, 0, 0)] (by decide +kernel) rfl rfl ?_
      refine sCsI oI rfl (avs := [vi a2]) (rest := []) (tX12_isAhead a2 μ2) (by decide) (by decide +kernel) lk_12_418 ys_X12_isAhead rfl rfl (Nat.le_of_ble_eq_true rfl) (fun x3 μ4 => ?_)
      refine sIf_eq oI (off := 25) (tgt := 53) (by decide +kernel) (by decide) (fun _ => ?_) (fun _ => ?_)
      · refine sBk (lo' := [(0, vr 13 0), (1, vi a1), (2, vi a2)]) (st' := [vi 5, vr 13 0]) (μ' := μ4) (pc' := 55) [(.aload_n 0, 0, 0, 0, 0), (.iconst 5, 0, 0, 5, 0)] (by decide +kernel) rfl rfl ?_
        refine sCvI oI rfl (ci := 12) (q := (13, 0)) (avs := [vi 5]) (rest := []) (tX12_refuse 5 μ4) (by decide) (by decide +kernel) lk_12_325 yv_X12_refuse rfl (by decide) rfl rfl rfl (Nat.le_of_ble_eq_true rfl) (fun x5 μ6 => ?_)
        exact sRi (by decide +kernel) (fun h => by cases h)
      · refine sBk (lo' := [(0, vr 13 0), (1, vi a1), (2, vi a2)]) (st' := [vi a2, vi (46 + a1), vr 13 0]) (μ' := μ4) (pc' := 37) [(.aload_n 0, 0, 0, 0, 0), (.bipush 46, 0, 0, 46, 0), (.iload_n 1, 0, 0, 0, 0), (.iadd, 0, 0, 0, 0), (.iload_n 2, 0, 0, 0, 0)] (by decide +kernel) rfl rfl ?_
        refine sCvI oI rfl (ci := 12) (q := (13, 0)) (avs := [vi (46 + a1), vi a2]) (rest := []) (tX12_cellIn (46 + a1) a2 μ4) (by decide) (by decide +kernel) lk_12_421 yv_X12_cellIn rfl (by decide) rfl rfl rfl (Nat.le_of_ble_eq_true rfl) (fun x7 μ8 => ?_)
        refine sBk (lo' := [(0, vr 13 0), (1, vi a1), (2, vi a2)]) (st' := [vi (46 + a1), vr 61 0, vi x7]) (μ' := μ8) (pc' := 48) [(.aload_n 0, 0, 0, 0, 0), (.getfield 35, 12, 20, 0, 0), (.bipush 46, 0, 0, 46, 0), (.iload_n 1, 0, 0, 0, 0), (.iadd, 0, 0, 0, 0)] (by decide +kernel) rfl rfl ?_
        refine sS_ial oI rfl (n := 1740) (j := (ix (46 + a1))) (by decide +kernel) rfl rfl rfl (fun _ => ?_)
        refine sBk (lo' := [(0, vr 13 0), (1, vi a1), (2, vi a2)]) (st' := [vi (x7 - (rI μ8 61 0 (ix (46 + a1))))]) (μ' := μ8) (pc' := 50) [(.isub, 0, 0, 0, 0)] (by decide +kernel) rfl rfl ?_
        refine sGt (off := 8) (tgt := 58) (by decide +kernel) (by decide) ?_
        exact sRi (by decide +kernel) (fun h => by cases h)
    · refine sBk (lo' := [(0, vr 13 0), (1, vi a1), (2, vi a2)]) (st' := [vi 2, vr 13 0]) (μ' := μ2) (pc' := 20) [(.aload_n 0, 0, 0, 0, 0), (.iconst 2, 0, 0, 2, 0)] (by decide +kernel) rfl rfl ?_
      refine sCvI oI rfl (ci := 12) (q := (13, 0)) (avs := [vi 2]) (rest := []) (tX12_refuse 2 μ2) (by decide) (by decide +kernel) lk_12_325 yv_X12_refuse rfl (by decide) rfl rfl rfl (Nat.le_of_ble_eq_true rfl) (fun x9 μ10 => ?_)
      exact sRi (by decide +kernel) (fun h => by cases h)
/-! ClockRiverModel.seaIn -/
def X12_seaIn (a1 : Int32) (μ : sM) : Option (Int64 × sM) :=
  bI (X12_isAhead a1 (wI (wI μ 13 0 1 0) 13 0 0 0)) fun x1 μ2 =>
    if x1 = 0 then
      bI (X12_refuse 5 μ2) fun x3 μ4 =>
        some ((Int32.toInt64 x3), μ4)
    else
      bI (X12_cellIn 10 a1 μ2) fun x5 μ6 =>
        some ((Int32.toInt64 (x5 - (rI μ6 61 0 10))), μ6)
theorem tX12_seaIn (a1 : Int32) (μ : sM) : sMt yX12_seaIn cX12_seaIn 2 (some .long) 4 [vr 13 0, vi a1] μ (oL (X12_seaIn a1 μ)) := by
  refine sMt_of (own := 12) (bl := false) (by decide +kernel) rfl (Nat.le_of_ble_eq_true rfl) (fun r ρ h => ?_) ?_
  · obtain ⟨q, -, hq⟩ := Option.map_eq_some_iff.mp h
    cases hq
    exact rfl
  · unfold X12_seaIn
    show sOk 12 cX12_seaIn 2 4 false 0 [(0, vr 13 0), (1, vi a1)] [] μ _
    refine sBk (lo' := [(0, vr 13 0), (1, vi a1)]) (st' := [vi a1]) (μ' := wI (wI μ 13 0 1 0) 13 0 0 0) (pc' := 11) [(.aload_n 0, 0, 0, 0, 0), (.iconst 0, 0, 0, 0, 0), (.putfield 72, 12, 1, 0, 0), (.aload_n 0, 0, 0, 0, 0), (.iconst 0, 0, 0, 0, 0), (.putfield 75, 12, 0, 0, 0), (.iload_n 1, 0, 0, 0, 0)] (by decide +kernel) rfl rfl ?_
    refine sCsI oL rfl (avs := [vi a1]) (rest := []) (tX12_isAhead a1 (wI (wI μ 13 0 1 0) 13 0 0 0)) (by decide) (by decide +kernel) lk_12_418 ys_X12_isAhead rfl rfl (Nat.le_of_ble_eq_true rfl) (fun x1 μ2 => ?_)
    refine sIf_eq oL (off := 22) (tgt := 36) (by decide +kernel) (by decide) (fun _ => ?_) (fun _ => ?_)
    · refine sBk (lo' := [(0, vr 13 0), (1, vi a1)]) (st' := [vi 5, vr 13 0]) (μ' := μ2) (pc' := 38) [(.aload_n 0, 0, 0, 0, 0), (.iconst 5, 0, 0, 5, 0)] (by decide +kernel) rfl rfl ?_
      refine sCvI oL rfl (ci := 12) (q := (13, 0)) (avs := [vi 5]) (rest := []) (tX12_refuse 5 μ2) (by decide) (by decide +kernel) lk_12_325 yv_X12_refuse rfl (by decide) rfl rfl rfl (Nat.le_of_ble_eq_true rfl) (fun x3 μ4 => ?_)
      refine sBk (lo' := [(0, vr 13 0), (1, vi a1)]) (st' := [vl (Int32.toInt64 x3)]) (μ' := μ4) (pc' := 42) [(.i2l, 0, 0, 0, 0)] (by decide +kernel) rfl rfl ?_
      exact sRl (by decide +kernel)
    · refine sBk (lo' := [(0, vr 13 0), (1, vi a1)]) (st' := [vi a1, vi 10, vr 13 0]) (μ' := μ2) (pc' := 21) [(.aload_n 0, 0, 0, 0, 0), (.bipush 10, 0, 0, 10, 0), (.iload_n 1, 0, 0, 0, 0)] (by decide +kernel) rfl rfl ?_
      refine sCvI oL rfl (ci := 12) (q := (13, 0)) (avs := [vi 10, vi a1]) (rest := []) (tX12_cellIn 10 a1 μ2) (by decide) (by decide +kernel) lk_12_421 yv_X12_cellIn rfl (by decide) rfl rfl rfl (Nat.le_of_ble_eq_true rfl) (fun x5 μ6 => ?_)
      refine sBk (lo' := [(0, vr 13 0), (1, vi a1)]) (st' := [vi 10, vr 61 0, vi x5]) (μ' := μ6) (pc' := 30) [(.aload_n 0, 0, 0, 0, 0), (.getfield 35, 12, 20, 0, 0), (.bipush 10, 0, 0, 10, 0)] (by decide +kernel) rfl rfl ?_
      refine sC_ial (n := 1740) (j := 10) (by decide +kernel) (by decide +kernel) rfl rfl (by decide +kernel) ?_
      refine sBk (lo' := [(0, vr 13 0), (1, vi a1)]) (st' := [vl (Int32.toInt64 (x5 - (rI μ6 61 0 10)))]) (μ' := μ6) (pc' := 33) [(.isub, 0, 0, 0, 0), (.i2l, 0, 0, 0, 0)] (by decide +kernel) rfl rfl ?_
      refine sGt (off := 9) (tgt := 42) (by decide +kernel) (by decide) ?_
      exact sRl (by decide +kernel)
