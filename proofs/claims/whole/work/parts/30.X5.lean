theorem lk_5_100 : Cond.methodLink (kRn 5) 100 yX3_add ∈ sT := sT_in (n := 904) (by decide +kernel) rfl
theorem lk_5_118 : Cond.methodLink (kRn 5) 118 yX4_placeOf ∈ sT := sT_in (n := 912) (by decide +kernel) rfl
theorem lk_5_122 : Cond.methodLink (kRn 5) 122 yX2_add ∈ sT := sT_in (n := 913) (by decide +kernel) rfl
theorem lk_5_132 : Cond.methodLink (kRn 5) 132 yX10_add ∈ sT := sT_in (n := 921) (by decide +kernel) rfl
theorem lk_5_133 : Cond.methodLink (kRn 5) 133 yX4_isTaken ∈ sT := sT_in (n := 893) (by decide +kernel) rfl
theorem lk_5_23 : Cond.methodLink (kRn 5) 23 yX4_clear ∈ sT := sT_in (n := 849) (by decide +kernel) rfl
theorem lk_5_33 : Cond.methodLink (kRn 5) 33 yX5_readPart ∈ sT := sT_in (n := 853) (by decide +kernel) rfl
theorem lk_5_37 : Cond.methodLink (kRn 5) 37 yX5_readSetting ∈ sT := sT_in (n := 857) (by decide +kernel) rfl
theorem lk_5_41 : Cond.methodLink (kRn 5) 41 yX5_readReach ∈ sT := sT_in (n := 884) (by decide +kernel) rfl
theorem lk_5_44 : Cond.methodLink (kRn 5) 44 yX5_readMill ∈ sT := sT_in (n := 908) (by decide +kernel) rfl
theorem lk_5_47 : Cond.methodLink (kRn 5) 47 yX5_readWinder ∈ sT := sT_in (n := 917) (by decide +kernel) rfl
theorem lk_5_50 : Cond.methodLink (kRn 5) 50 yX6_failToStand ∈ sT := sT_in (n := 892) (by decide +kernel) rfl
theorem lk_5_53 : Cond.methodLink (kRn 5) 53 yX6_fail ∈ sT := sT_in (n := 861) (by decide +kernel) rfl
theorem lk_5_56 : Cond.methodLink (kRn 5) 56 yX6_advance ∈ sT := sT_in (n := 865) (by decide +kernel) rfl
theorem lk_5_59 : Cond.methodLink (kRn 5) 59 yX6_takeNumber ∈ sT := sT_in (n := 869) (by decide +kernel) rfl
theorem lk_5_78 : Cond.methodLink (kRn 5) 78 yX6_takeEnd ∈ sT := sT_in (n := 879) (by decide +kernel) rfl
theorem lk_5_90 : Cond.methodLink (kRn 5) 90 yX5_takeNewName ∈ sT := sT_in (n := 888) (by decide +kernel) rfl
theorem lk_5_93 : Cond.methodLink (kRn 5) 93 yX6_takeWord ∈ sT := sT_in (n := 900) (by decide +kernel) rfl
theorem yv_X10_add : yV yX10_add cX10_add 5 none 3 := ⟨⟨sT_in (n := 924) (by decide +kernel) rfl, sT_in (n := 141) (by decide +kernel) rfl, by decide +kernel, by decide⟩, sT_in (n := 922) (by decide +kernel) rfl, sT_in (n := 923) (by decide +kernel) rfl⟩
theorem yv_X2_add : yV yX2_add cX2_add 5 none 3 := ⟨⟨sT_in (n := 916) (by decide +kernel) rfl, sT_in (n := 140) (by decide +kernel) rfl, by decide +kernel, by decide⟩, sT_in (n := 914) (by decide +kernel) rfl, sT_in (n := 915) (by decide +kernel) rfl⟩
theorem yv_X3_add : yV yX3_add cX3_add 6 none 4 := ⟨⟨sT_in (n := 907) (by decide +kernel) rfl, sT_in (n := 139) (by decide +kernel) rfl, by decide +kernel, by decide⟩, sT_in (n := 905) (by decide +kernel) rfl, sT_in (n := 906) (by decide +kernel) rfl⟩
theorem yv_X4_clear : yV yX4_clear cX4_clear 2 none 0 := ⟨⟨sT_in (n := 852) (by decide +kernel) rfl, sT_in (n := 138) (by decide +kernel) rfl, by decide +kernel, by decide⟩, sT_in (n := 850) (by decide +kernel) rfl, sT_in (n := 851) (by decide +kernel) rfl⟩
theorem yv_X4_isTaken : yV yX4_isTaken cX4_isTaken 3 (some .boolean) 1 := ⟨⟨sT_in (n := 896) (by decide +kernel) rfl, sT_in (n := 138) (by decide +kernel) rfl, by decide +kernel, by decide⟩, sT_in (n := 894) (by decide +kernel) rfl, sT_in (n := 895) (by decide +kernel) rfl⟩
theorem yv_X5_readMill : yV yX5_readMill cX5_readMill 2 (some .boolean) 0 := ⟨⟨sT_in (n := 911) (by decide +kernel) rfl, sT_in (n := 145) (by decide +kernel) rfl, by decide +kernel, by decide⟩, sT_in (n := 910) (by decide +kernel) rfl, sT_in (n := 13) (by decide +kernel) rfl⟩
theorem yv_X5_readPart : yV yX5_readPart cX5_readPart 1 (some .boolean) 0 := ⟨⟨sT_in (n := 856) (by decide +kernel) rfl, sT_in (n := 145) (by decide +kernel) rfl, by decide +kernel, by decide⟩, sT_in (n := 855) (by decide +kernel) rfl, sT_in (n := 9) (by decide +kernel) rfl⟩
theorem yv_X5_readReach : yV yX5_readReach cX5_readReach 4 (some .boolean) 0 := ⟨⟨sT_in (n := 887) (by decide +kernel) rfl, sT_in (n := 145) (by decide +kernel) rfl, by decide +kernel, by decide⟩, sT_in (n := 886) (by decide +kernel) rfl, sT_in (n := 11) (by decide +kernel) rfl⟩
theorem yv_X5_readSetting : yV yX5_readSetting cX5_readSetting 3 (some .boolean) 1 := ⟨⟨sT_in (n := 860) (by decide +kernel) rfl, sT_in (n := 145) (by decide +kernel) rfl, by decide +kernel, by decide⟩, sT_in (n := 859) (by decide +kernel) rfl, sT_in (n := 10) (by decide +kernel) rfl⟩
theorem yv_X5_readWinder : yV yX5_readWinder cX5_readWinder 3 (some .boolean) 0 := ⟨⟨sT_in (n := 920) (by decide +kernel) rfl, sT_in (n := 145) (by decide +kernel) rfl, by decide +kernel, by decide⟩, sT_in (n := 919) (by decide +kernel) rfl, sT_in (n := 14) (by decide +kernel) rfl⟩
theorem yv_X5_takeNewName : yV yX5_takeNewName cX5_takeNewName 1 (some .boolean) 0 := ⟨⟨sT_in (n := 891) (by decide +kernel) rfl, sT_in (n := 145) (by decide +kernel) rfl, by decide +kernel, by decide⟩, sT_in (n := 890) (by decide +kernel) rfl, sT_in (n := 12) (by decide +kernel) rfl⟩
theorem yv_X6_takeEnd : yV yX6_takeEnd cX6_takeEnd 1 (some .boolean) 0 := ⟨⟨sT_in (n := 882) (by decide +kernel) rfl, sT_in (n := 144) (by decide +kernel) rfl, by decide +kernel, by decide⟩, sT_in (n := 880) (by decide +kernel) rfl, sT_in (n := 881) (by decide +kernel) rfl⟩
theorem yv_X6_takeNumber : yV yX6_takeNumber cX6_takeNumber 3 (some .boolean) 2 := ⟨⟨sT_in (n := 872) (by decide +kernel) rfl, sT_in (n := 144) (by decide +kernel) rfl, by decide +kernel, by decide⟩, sT_in (n := 870) (by decide +kernel) rfl, sT_in (n := 871) (by decide +kernel) rfl⟩
theorem yv_X6_takeWord : yV yX6_takeWord cX6_takeWord 2 (some .boolean) 1 := ⟨⟨sT_in (n := 903) (by decide +kernel) rfl, sT_in (n := 144) (by decide +kernel) rfl, by decide +kernel, by decide⟩, sT_in (n := 901) (by decide +kernel) rfl, sT_in (n := 902) (by decide +kernel) rfl⟩
/-! ClockRiver$RiverReader.readSetting -/
def X5_readSetting_J141 (μ : sM) : Option (Int32 × sM) :=
  if (rR μ 6 0 0) = 1 then
    bI (X6_takeEnd μ) fun x2 μ3 =>
      if x2 = 0 ∨ x2 = 1 then some (x2, μ3) else none
  else none
theorem X5_readSetting_J141_ok (μ : sM) : sOk 5 cX5_readSetting 3 4 true 141 [(0, vr 6 0)] [] μ (oI (X5_readSetting_J141 μ)) := by
  unfold X5_readSetting_J141
  refine sBk (lo' := [(0, vr 6 0)]) (st' := [vr 6 0]) (μ' := μ) (pc' := 142) [(.aload_n 0, 0, 0, 0, 0)] (by decide +kernel) rfl rfl ?_
  refine sCk oI rfl (fun h1 => ?_)
  refine sGr (idx := 9) (ci := 5) (sl := 0) (n := 0) (by decide +kernel) rfl rfl h1 ?_
  refine sCvI oI rfl (ci := 6) (q := (7, 0)) (avs := []) (rest := []) (tX6_takeEnd μ) (by decide) (by decide +kernel) lk_5_78 yv_X6_takeEnd rfl (by decide) rfl rfl rfl (Nat.le_of_ble_eq_true rfl) (fun x2 μ3 => ?_)
  exact sCk oI rfl (fun h => sRi (by decide +kernel) (fun _ => h))
def X5_readSetting (a1 : Int32) (μ : sM) : Option (Int32 × sM) :=
  if (rR μ 6 0 0) = 1 then
    if ((isr (rI μ 6 0 3) (rI μ 7 0 4)) &&& 1) = 1 then
      if (rR μ 6 0 0) = 1 then
        bI (X6_fail 5 μ) fun x17 μ18 =>
          if x17 = 0 ∨ x17 = 1 then some (x17, μ18) else none
      else none
    else
      if (rR μ 6 0 0) = 1 then
        bV (X6_advance (wI μ 6 0 3 ((rI μ 6 0 3) ||| (isl 1 (rI μ 7 0 4))))) fun μ4 =>
          if (rR μ4 6 0 0) = 1 then
            bI (X6_takeNumber 0 a1 μ4) fun x6 μ7 =>
              if x6 = 0 then
                some (0, μ7)
              else
                if (rI μ 7 0 4) = 0 then
                  if (rR μ7 6 0 1) = 5 then
                    if (rR μ7 6 0 0) = 1 then
                      X5_readSetting_J141 (wI μ7 5 4 0 (rI μ7 7 0 6))
                    else none
                  else none
                else
                  if (rI μ 7 0 4) = 1 then
                    if (rR μ7 6 0 1) = 5 then
                      if (rR μ7 6 0 0) = 1 then
                        X5_readSetting_J141 (wI μ7 5 4 1 (rI μ7 7 0 6))
                      else none
                    else none
                  else
                    if (rI μ 7 0 4) = 2 then
                      if (rR μ7 6 0 1) = 5 then
                        if (rR μ7 6 0 0) = 1 then
                          X5_readSetting_J141 (wI μ7 5 4 2 (rI μ7 7 0 6))
                        else none
                      else none
                    else
                      if (rR μ7 6 0 1) = 5 then
                        if (rR μ7 6 0 0) = 1 then
                          X5_readSetting_J141 (wI μ7 5 4 3 (rI μ7 7 0 6))
                        else none
                      else none
          else none
      else none
  else none
theorem tX5_readSetting (a1 : Int32) (μ : sM) : sMt yX5_readSetting cX5_readSetting 3 (some .boolean) 4 [vr 6 0, vi a1] μ (oI (X5_readSetting a1 μ)) := by
  refine sMt_of (own := 5) (bl := true) (by decide +kernel) rfl (Nat.le_of_ble_eq_true rfl) (fun r ρ h => ?_) ?_
  · obtain ⟨q, -, hq⟩ := Option.map_eq_some_iff.mp h
    cases hq
    exact Or.inr ⟨rfl, rfl⟩
  · unfold X5_readSetting
    show sOk 5 cX5_readSetting 3 4 true 0 [(0, vr 6 0), (1, vi a1)] [] μ _
    refine sBk (lo' := [(0, vr 6 0), (1, vi a1)]) (st' := [vr 6 0]) (μ' := μ) (pc' := 1) [(.aload_n 0, 0, 0, 0, 0)] (by decide +kernel) rfl rfl ?_
    refine sCk oI rfl (fun h1 => ?_)
    refine sGr (idx := 9) (ci := 5) (sl := 0) (n := 0) (by decide +kernel) rfl rfl h1 ?_
    refine sBk (lo' := [(2, vi (rI μ 7 0 4)), (0, vr 6 0), (1, vi a1)]) (st' := [vi 1, vi ((isr (rI μ 6 0 3) (rI μ 7 0 4)) &&& 1)]) (μ' := μ) (pc' := 17) [(.getfield 28, 6, 4, 0, 0), (.istore_n 2, 0, 0, 0, 0), (.aload_n 0, 0, 0, 0, 0), (.getfield 19, 5, 3, 0, 0), (.iload_n 2, 0, 0, 0, 0), (.ishr, 0, 0, 0, 0), (.iconst 1, 0, 0, 1, 0), (.iand, 0, 0, 0, 0), (.iconst 1, 0, 0, 1, 0)] (by decide +kernel) rfl rfl ?_
    refine sIc_ne oI (off := 12) (tgt := 29) (by decide +kernel) (by decide) (fun _ => ?_) (fun _ => ?_)
    · refine sBk (lo' := [(2, vi (rI μ 7 0 4)), (0, vr 6 0), (1, vi a1)]) (st' := [vr 6 0]) (μ' := wI μ 6 0 3 ((rI μ 6 0 3) ||| (isl 1 (rI μ 7 0 4)))) (pc' := 42) [(.aload_n 0, 0, 0, 0, 0), (.dup, 0, 0, 0, 0), (.getfield 19, 5, 3, 0, 0), (.iconst 1, 0, 0, 1, 0), (.iload_n 2, 0, 0, 0, 0), (.ishl, 0, 0, 0, 0), (.ior, 0, 0, 0, 0), (.putfield 19, 5, 3, 0, 0), (.aload_n 0, 0, 0, 0, 0)] (by decide +kernel) rfl rfl ?_
      refine sCk oI rfl (fun h2 => ?_)
      refine sGr (idx := 9) (ci := 5) (sl := 0) (n := 0) (by decide +kernel) rfl rfl h2 ?_
      refine sCvV oI rfl (ci := 6) (q := (7, 0)) (avs := []) (rest := []) (tX6_advance (wI μ 6 0 3 ((rI μ 6 0 3) ||| (isl 1 (rI μ 7 0 4))))) (by decide) (by decide +kernel) lk_5_56 yv_X6_advance rfl (by decide) rfl rfl rfl (Nat.le_of_ble_eq_true rfl) (fun μ4 => ?_)
      refine sBk (lo' := [(2, vi (rI μ 7 0 4)), (0, vr 6 0), (1, vi a1)]) (st' := [vr 6 0]) (μ' := μ4) (pc' := 49) [(.aload_n 0, 0, 0, 0, 0)] (by decide +kernel) rfl rfl ?_
      refine sCk oI rfl (fun h5 => ?_)
      refine sGr (idx := 9) (ci := 5) (sl := 0) (n := 0) (by decide +kernel) rfl rfl h5 ?_
      refine sBk (lo' := [(2, vi (rI μ 7 0 4)), (0, vr 6 0), (1, vi a1)]) (st' := [vi a1, vi 0, vr 7 0]) (μ' := μ4) (pc' := 54) [(.iconst 0, 0, 0, 0, 0), (.iload_n 1, 0, 0, 0, 0)] (by decide +kernel) rfl rfl ?_
      refine sCvI oI rfl (ci := 6) (q := (7, 0)) (avs := [vi 0, vi a1]) (rest := []) (tX6_takeNumber 0 a1 μ4) (by decide) (by decide +kernel) lk_5_59 yv_X6_takeNumber rfl (by decide) rfl rfl rfl (Nat.le_of_ble_eq_true rfl) (fun x6 μ7 => ?_)
      refine sIf_ne oI (off := 5) (tgt := 62) (by decide +kernel) (by decide) (fun _ => ?_) (fun _ => ?_)
      · refine sBk (lo' := [(2, vi (rI μ 7 0 4)), (0, vr 6 0), (1, vi a1)]) (st' := [vi (rI μ 7 0 4)]) (μ' := μ7) (pc' := 63) [(.iload_n 2, 0, 0, 0, 0)] (by decide +kernel) rfl rfl ?_
        refine sIf_ne oI (off := 20) (tgt := 83) (by decide +kernel) (by decide) (fun _ => ?_) (fun _ => ?_)
        · refine sBk (lo' := [(2, vi (rI μ 7 0 4)), (0, vr 6 0), (1, vi a1)]) (st' := [vi 1, vi (rI μ 7 0 4)]) (μ' := μ7) (pc' := 85) [(.iload_n 2, 0, 0, 0, 0), (.iconst 1, 0, 0, 1, 0)] (by decide +kernel) rfl rfl ?_
          refine sIc_ne oI (off := 20) (tgt := 105) (by decide +kernel) (by decide) (fun _ => ?_) (fun _ => ?_)
          · refine sBk (lo' := [(2, vi (rI μ 7 0 4)), (0, vr 6 0), (1, vi a1)]) (st' := [vi 2, vi (rI μ 7 0 4)]) (μ' := μ7) (pc' := 107) [(.iload_n 2, 0, 0, 0, 0), (.iconst 2, 0, 0, 2, 0)] (by decide +kernel) rfl rfl ?_
            refine sIc_ne oI (off := 20) (tgt := 127) (by decide +kernel) (by decide) (fun _ => ?_) (fun _ => ?_)
            · refine sBk (lo' := [(2, vi (rI μ 7 0 4)), (0, vr 6 0), (1, vi a1)]) (st' := [vr 6 0]) (μ' := μ7) (pc' := 128) [(.aload_n 0, 0, 0, 0, 0)] (by decide +kernel) rfl rfl ?_
              refine sCk oI rfl (fun h8 => ?_)
              refine sGr (idx := 15) (ci := 5) (sl := 1) (n := 4) (by decide +kernel) rfl rfl h8 ?_
              refine sBk (lo' := [(2, vi (rI μ 7 0 4)), (0, vr 6 0), (1, vi a1)]) (st' := [vr 6 0, vr 5 4]) (μ' := μ7) (pc' := 132) [(.aload_n 0, 0, 0, 0, 0)] (by decide +kernel) rfl rfl ?_
              refine sCk oI rfl (fun h9 => ?_)
              refine sGr (idx := 9) (ci := 5) (sl := 0) (n := 0) (by decide +kernel) rfl rfl h9 ?_
              refine sBk (lo' := [(2, vi (rI μ 7 0 4)), (0, vr 6 0), (1, vi a1)]) (st' := []) (μ' := wI μ7 5 4 3 (rI μ7 7 0 6)) (pc' := 141) [(.getfield 63, 6, 6, 0, 0), (.putfield 75, 4, 3, 0, 0)] (by decide +kernel) rfl rfl ?_
              refine sWk (lo' := [(0, vr 6 0)]) [1] rfl ?_
              exact X5_readSetting_J141_ok (wI μ7 5 4 3 (rI μ7 7 0 6))
            · refine sBk (lo' := [(2, vi (rI μ 7 0 4)), (0, vr 6 0), (1, vi a1)]) (st' := [vr 6 0]) (μ' := μ7) (pc' := 111) [(.aload_n 0, 0, 0, 0, 0)] (by decide +kernel) rfl rfl ?_
              refine sCk oI rfl (fun h10 => ?_)
              refine sGr (idx := 15) (ci := 5) (sl := 1) (n := 4) (by decide +kernel) rfl rfl h10 ?_
              refine sBk (lo' := [(2, vi (rI μ 7 0 4)), (0, vr 6 0), (1, vi a1)]) (st' := [vr 6 0, vr 5 4]) (μ' := μ7) (pc' := 115) [(.aload_n 0, 0, 0, 0, 0)] (by decide +kernel) rfl rfl ?_
              refine sCk oI rfl (fun h11 => ?_)
              refine sGr (idx := 9) (ci := 5) (sl := 0) (n := 0) (by decide +kernel) rfl rfl h11 ?_
              refine sBk (lo' := [(2, vi (rI μ 7 0 4)), (0, vr 6 0), (1, vi a1)]) (st' := []) (μ' := wI μ7 5 4 2 (rI μ7 7 0 6)) (pc' := 124) [(.getfield 63, 6, 6, 0, 0), (.putfield 72, 4, 2, 0, 0)] (by decide +kernel) rfl rfl ?_
              refine sGt (off := 17) (tgt := 141) (by decide +kernel) (by decide) ?_
              refine sWk (lo' := [(0, vr 6 0)]) [1] rfl ?_
              exact X5_readSetting_J141_ok (wI μ7 5 4 2 (rI μ7 7 0 6))
          · refine sBk (lo' := [(2, vi (rI μ 7 0 4)), (0, vr 6 0), (1, vi a1)]) (st' := [vr 6 0]) (μ' := μ7) (pc' := 89) [(.aload_n 0, 0, 0, 0, 0)] (by decide +kernel) rfl rfl ?_
            refine sCk oI rfl (fun h12 => ?_)
            refine sGr (idx := 15) (ci := 5) (sl := 1) (n := 4) (by decide +kernel) rfl rfl h12 ?_
            refine sBk (lo' := [(2, vi (rI μ 7 0 4)), (0, vr 6 0), (1, vi a1)]) (st' := [vr 6 0, vr 5 4]) (μ' := μ7) (pc' := 93) [(.aload_n 0, 0, 0, 0, 0)] (by decide +kernel) rfl rfl ?_
            refine sCk oI rfl (fun h13 => ?_)
            refine sGr (idx := 9) (ci := 5) (sl := 0) (n := 0) (by decide +kernel) rfl rfl h13 ?_
            refine sBk (lo' := [(2, vi (rI μ 7 0 4)), (0, vr 6 0), (1, vi a1)]) (st' := []) (μ' := wI μ7 5 4 1 (rI μ7 7 0 6)) (pc' := 102) [(.getfield 63, 6, 6, 0, 0), (.putfield 69, 4, 1, 0, 0)] (by decide +kernel) rfl rfl ?_
            refine sGt (off := 39) (tgt := 141) (by decide +kernel) (by decide) ?_
            refine sWk (lo' := [(0, vr 6 0)]) [1] rfl ?_
            exact X5_readSetting_J141_ok (wI μ7 5 4 1 (rI μ7 7 0 6))
        · refine sBk (lo' := [(2, vi (rI μ 7 0 4)), (0, vr 6 0), (1, vi a1)]) (st' := [vr 6 0]) (μ' := μ7) (pc' := 67) [(.aload_n 0, 0, 0, 0, 0)] (by decide +kernel) rfl rfl ?_
          refine sCk oI rfl (fun h14 => ?_)
          refine sGr (idx := 15) (ci := 5) (sl := 1) (n := 4) (by decide +kernel) rfl rfl h14 ?_
          refine sBk (lo' := [(2, vi (rI μ 7 0 4)), (0, vr 6 0), (1, vi a1)]) (st' := [vr 6 0, vr 5 4]) (μ' := μ7) (pc' := 71) [(.aload_n 0, 0, 0, 0, 0)] (by decide +kernel) rfl rfl ?_
          refine sCk oI rfl (fun h15 => ?_)
          refine sGr (idx := 9) (ci := 5) (sl := 0) (n := 0) (by decide +kernel) rfl rfl h15 ?_
          refine sBk (lo' := [(2, vi (rI μ 7 0 4)), (0, vr 6 0), (1, vi a1)]) (st' := []) (μ' := wI μ7 5 4 0 (rI μ7 7 0 6)) (pc' := 80) [(.getfield 63, 6, 6, 0, 0), (.putfield 66, 4, 0, 0, 0)] (by decide +kernel) rfl rfl ?_
          refine sGt (off := 61) (tgt := 141) (by decide +kernel) (by decide) ?_
          refine sWk (lo' := [(0, vr 6 0)]) [1] rfl ?_
          exact X5_readSetting_J141_ok (wI μ7 5 4 0 (rI μ7 7 0 6))
      · refine sBk (lo' := [(2, vi (rI μ 7 0 4)), (0, vr 6 0), (1, vi a1)]) (st' := [vi 0]) (μ' := μ7) (pc' := 61) [(.iconst 0, 0, 0, 0, 0)] (by decide +kernel) rfl rfl ?_
        exact sRi (by decide +kernel) (fun _ => Or.inl rfl)
    · refine sBk (lo' := [(2, vi (rI μ 7 0 4)), (0, vr 6 0), (1, vi a1)]) (st' := [vr 6 0]) (μ' := μ) (pc' := 21) [(.aload_n 0, 0, 0, 0, 0)] (by decide +kernel) rfl rfl ?_
      refine sCk oI rfl (fun h16 => ?_)
      refine sGr (idx := 9) (ci := 5) (sl := 0) (n := 0) (by decide +kernel) rfl rfl h16 ?_
      refine sBk (lo' := [(2, vi (rI μ 7 0 4)), (0, vr 6 0), (1, vi a1)]) (st' := [vi 5, vr 7 0]) (μ' := μ) (pc' := 25) [(.iconst 5, 0, 0, 5, 0)] (by decide +kernel) rfl rfl ?_
      refine sCvI oI rfl (ci := 6) (q := (7, 0)) (avs := [vi 5]) (rest := []) (tX6_fail 5 μ) (by decide) (by decide +kernel) lk_5_53 yv_X6_fail rfl (by decide) rfl rfl rfl (Nat.le_of_ble_eq_true rfl) (fun x17 μ18 => ?_)
      exact sCk oI rfl (fun h => sRi (by decide +kernel) (fun _ => h))
/-! ClockRiver$RiverReader.takeNewName -/
def X5_takeNewName (μ : sM) : Option (Int32 × sM) :=
  if (rR μ 6 0 0) = 1 then
    if (rI μ 7 0 4) = 27 then
      if (rR μ 6 0 1) = 5 then
        if (rR μ 6 0 0) = 1 then
          bI (X4_isTaken 4 (rL μ 7 0 5) μ) fun x4 μ5 =>
            if x4 = 0 then
              if (rR μ5 6 0 0) = 1 then
                if (rR μ5 6 0 0) = 1 then
                  bV (X6_advance (wL μ5 6 0 2 (rL μ5 7 0 5))) fun μ9 =>
                    some (1, μ9)
                else none
              else none
            else
              if (rR μ5 6 0 0) = 1 then
                bI (X6_fail 3 μ5) fun x11 μ12 =>
                  if x11 = 0 ∨ x11 = 1 then some (x11, μ12) else none
              else none
        else none
      else none
    else
      if (rR μ 6 0 0) = 1 then
        bI (X6_failToStand μ) fun x14 μ15 =>
          if x14 = 0 ∨ x14 = 1 then some (x14, μ15) else none
      else none
  else none
theorem tX5_takeNewName (μ : sM) : sMt yX5_takeNewName cX5_takeNewName 1 (some .boolean) 3 [vr 6 0] μ (oI (X5_takeNewName μ)) := by
  refine sMt_of (own := 5) (bl := true) (by decide +kernel) rfl (Nat.le_of_ble_eq_true rfl) (fun r ρ h => ?_) ?_
  · obtain ⟨q, -, hq⟩ := Option.map_eq_some_iff.mp h
    cases hq
    exact Or.inr ⟨rfl, rfl⟩
  · unfold X5_takeNewName
    show sOk 5 cX5_takeNewName 1 3 true 0 [(0, vr 6 0)] [] μ _
    refine sBk (lo' := [(0, vr 6 0)]) (st' := [vr 6 0]) (μ' := μ) (pc' := 1) [(.aload_n 0, 0, 0, 0, 0)] (by decide +kernel) rfl rfl ?_
    refine sCk oI rfl (fun h1 => ?_)
    refine sGr (idx := 9) (ci := 5) (sl := 0) (n := 0) (by decide +kernel) rfl rfl h1 ?_
    refine sBk (lo' := [(0, vr 6 0)]) (st' := [vi 27, vi (rI μ 7 0 4)]) (μ' := μ) (pc' := 9) [(.getfield 28, 6, 4, 0, 0), (.bipush 27, 0, 0, 27, 0)] (by decide +kernel) rfl rfl ?_
    refine sIc_eq oI (off := 11) (tgt := 20) (by decide +kernel) (by decide) (fun _ => ?_) (fun _ => ?_)
    · refine sBk (lo' := [(0, vr 6 0)]) (st' := [vr 6 0]) (μ' := μ) (pc' := 21) [(.aload_n 0, 0, 0, 0, 0)] (by decide +kernel) rfl rfl ?_
      refine sCk oI rfl (fun h2 => ?_)
      refine sGr (idx := 15) (ci := 5) (sl := 1) (n := 4) (by decide +kernel) rfl rfl h2 ?_
      refine sBk (lo' := [(0, vr 6 0)]) (st' := [vr 6 0, vr 5 4]) (μ' := μ) (pc' := 25) [(.aload_n 0, 0, 0, 0, 0)] (by decide +kernel) rfl rfl ?_
      refine sCk oI rfl (fun h3 => ?_)
      refine sGr (idx := 9) (ci := 5) (sl := 0) (n := 0) (by decide +kernel) rfl rfl h3 ?_
      refine sBk (lo' := [(0, vr 6 0)]) (st' := [vl (rL μ 7 0 5), vr 5 4]) (μ' := μ) (pc' := 31) [(.getfield 111, 6, 5, 0, 0)] (by decide +kernel) rfl rfl ?_
      refine sCvI oI rfl (ci := 4) (q := (5, 4)) (avs := [vl (rL μ 7 0 5)]) (rest := []) (tX4_isTaken 4 (rL μ 7 0 5) μ) (by decide) (by decide +kernel) lk_5_133 yv_X4_isTaken rfl (by decide) rfl rfl rfl (Nat.le_of_ble_eq_true rfl) (fun x4 μ5 => ?_)
      refine sIf_eq oI (off := 12) (tgt := 46) (by decide +kernel) (by decide) (fun _ => ?_) (fun _ => ?_)
      · refine sBk (lo' := [(0, vr 6 0)]) (st' := [vr 6 0, vr 6 0]) (μ' := μ5) (pc' := 48) [(.aload_n 0, 0, 0, 0, 0), (.aload_n 0, 0, 0, 0, 0)] (by decide +kernel) rfl rfl ?_
        refine sCk oI rfl (fun h6 => ?_)
        refine sGr (idx := 9) (ci := 5) (sl := 0) (n := 0) (by decide +kernel) rfl rfl h6 ?_
        refine sBk (lo' := [(0, vr 6 0)]) (st' := [vr 6 0]) (μ' := wL μ5 6 0 2 (rL μ5 7 0 5)) (pc' := 58) [(.getfield 111, 6, 5, 0, 0), (.putfield 96, 5, 2, 0, 0), (.aload_n 0, 0, 0, 0, 0)] (by decide +kernel) rfl rfl ?_
        refine sCk oI rfl (fun h7 => ?_)
        refine sGr (idx := 9) (ci := 5) (sl := 0) (n := 0) (by decide +kernel) rfl rfl h7 ?_
        refine sCvV oI rfl (ci := 6) (q := (7, 0)) (avs := []) (rest := []) (tX6_advance (wL μ5 6 0 2 (rL μ5 7 0 5))) (by decide) (by decide +kernel) lk_5_56 yv_X6_advance rfl (by decide) rfl rfl rfl (Nat.le_of_ble_eq_true rfl) (fun μ9 => ?_)
        refine sBk (lo' := [(0, vr 6 0)]) (st' := [vi 1]) (μ' := μ9) (pc' := 65) [(.iconst 1, 0, 0, 1, 0)] (by decide +kernel) rfl rfl ?_
        exact sRi (by decide +kernel) (fun _ => Or.inr rfl)
      · refine sBk (lo' := [(0, vr 6 0)]) (st' := [vr 6 0]) (μ' := μ5) (pc' := 38) [(.aload_n 0, 0, 0, 0, 0)] (by decide +kernel) rfl rfl ?_
        refine sCk oI rfl (fun h10 => ?_)
        refine sGr (idx := 9) (ci := 5) (sl := 0) (n := 0) (by decide +kernel) rfl rfl h10 ?_
        refine sBk (lo' := [(0, vr 6 0)]) (st' := [vi 3, vr 7 0]) (μ' := μ5) (pc' := 42) [(.iconst 3, 0, 0, 3, 0)] (by decide +kernel) rfl rfl ?_
        refine sCvI oI rfl (ci := 6) (q := (7, 0)) (avs := [vi 3]) (rest := []) (tX6_fail 3 μ5) (by decide) (by decide +kernel) lk_5_53 yv_X6_fail rfl (by decide) rfl rfl rfl (Nat.le_of_ble_eq_true rfl) (fun x11 μ12 => ?_)
        exact sCk oI rfl (fun h => sRi (by decide +kernel) (fun _ => h))
    · refine sBk (lo' := [(0, vr 6 0)]) (st' := [vr 6 0]) (μ' := μ) (pc' := 13) [(.aload_n 0, 0, 0, 0, 0)] (by decide +kernel) rfl rfl ?_
      refine sCk oI rfl (fun h13 => ?_)
      refine sGr (idx := 9) (ci := 5) (sl := 0) (n := 0) (by decide +kernel) rfl rfl h13 ?_
      refine sCvI oI rfl (ci := 6) (q := (7, 0)) (avs := []) (rest := []) (tX6_failToStand μ) (by decide) (by decide +kernel) lk_5_50 yv_X6_failToStand rfl (by decide) rfl rfl rfl (Nat.le_of_ble_eq_true rfl) (fun x14 μ15 => ?_)
      exact sCk oI rfl (fun h => sRi (by decide +kernel) (fun _ => h))
/-! ClockRiver$RiverReader.readReach -/
def X5_readReach_J152 (v1 : Int32) (v2 : Int32) (v3 : Int32) (μ : sM) : Option (Int32 × sM) :=
  if (rR μ 6 0 1) = 5 then
    bV (X3_add 4 (rL μ 6 0 2) v1 v2 v3 μ) fun μ3 =>
      if (rR μ3 6 0 0) = 1 then
        bI (X6_takeEnd μ3) fun x5 μ6 =>
          if x5 = 0 ∨ x5 = 1 then some (x5, μ6) else none
      else none
  else none
theorem X5_readReach_J152_ok (v1 : Int32) (v2 : Int32) (v3 : Int32) (μ : sM) : sOk 5 cX5_readReach 4 4 true 152 [(0, vr 6 0), (1, vi v1), (2, vi v2), (3, vi v3)] [] μ (oI (X5_readReach_J152 v1 v2 v3 μ)) := by
  unfold X5_readReach_J152
  refine sBk (lo' := [(0, vr 6 0), (1, vi v1), (2, vi v2), (3, vi v3)]) (st' := [vr 6 0]) (μ' := μ) (pc' := 153) [(.aload_n 0, 0, 0, 0, 0)] (by decide +kernel) rfl rfl ?_
  refine sCk oI rfl (fun h1 => ?_)
  refine sGr (idx := 15) (ci := 5) (sl := 1) (n := 4) (by decide +kernel) rfl rfl h1 ?_
  refine sBk (lo' := [(0, vr 6 0), (1, vi v1), (2, vi v2), (3, vi v3)]) (st' := [vi v3, vi v2, vi v1, vl (rL μ 6 0 2), vr 4 4]) (μ' := μ) (pc' := 166) [(.getfield 81, 4, 8, 0, 0), (.aload_n 0, 0, 0, 0, 0), (.getfield 96, 5, 2, 0, 0), (.iload_n 1, 0, 0, 0, 0), (.iload_n 2, 0, 0, 0, 0), (.iload_n 3, 0, 0, 0, 0)] (by decide +kernel) rfl rfl ?_
  refine sCvV oI rfl (ci := 3) (q := (4, 4)) (avs := [vl (rL μ 6 0 2), vi v1, vi v2, vi v3]) (rest := []) (tX3_add 4 (rL μ 6 0 2) v1 v2 v3 μ) (by decide) (by decide +kernel) lk_5_100 yv_X3_add rfl (by decide) rfl rfl rfl (Nat.le_of_ble_eq_true rfl) (fun μ3 => ?_)
  refine sBk (lo' := [(0, vr 6 0), (1, vi v1), (2, vi v2), (3, vi v3)]) (st' := [vr 6 0]) (μ' := μ3) (pc' := 170) [(.aload_n 0, 0, 0, 0, 0)] (by decide +kernel) rfl rfl ?_
  refine sCk oI rfl (fun h4 => ?_)
  refine sGr (idx := 9) (ci := 5) (sl := 0) (n := 0) (by decide +kernel) rfl rfl h4 ?_
  refine sCvI oI rfl (ci := 6) (q := (7, 0)) (avs := []) (rest := []) (tX6_takeEnd μ3) (by decide) (by decide +kernel) lk_5_78 yv_X6_takeEnd rfl (by decide) rfl rfl rfl (Nat.le_of_ble_eq_true rfl) (fun x5 μ6 => ?_)
  exact sCk oI rfl (fun h => sRi (by decide +kernel) (fun _ => h))
def X5_readReach (μ : sM) : Option (Int32 × sM) :=
  if (rR μ 6 0 1) = 5 then
    if (rI μ 4 4 0) < 6 then
      if (rR μ 6 0 0) = 1 then
        bV (X6_advance μ) fun μ4 =>
          bI (X5_takeNewName μ4) fun x5 μ6 =>
            if x5 = 0 then
              some (0, μ6)
            else
              if (rR μ6 6 0 0) = 1 then
                bI (X6_takeWord 5 μ6) fun x8 μ9 =>
                  if x8 = 0 then
                    some (0, μ9)
                  else
                    if (rR μ9 6 0 0) = 1 then
                      bI (X6_takeNumber 0 999 μ9) fun x11 μ12 =>
                        if x11 = 0 then
                          some (0, μ12)
                        else
                          if (rR μ12 6 0 0) = 1 then
                            if (rR μ12 6 0 0) = 1 then
                              bI (X6_takeWord 6 μ12) fun x15 μ16 =>
                                if x15 = 0 then
                                  some (0, μ16)
                                else
                                  if (rR μ16 6 0 0) = 1 then
                                    bI (X6_takeNumber 0 99 μ16) fun x18 μ19 =>
                                      if x18 = 0 then
                                        some (0, μ19)
                                      else
                                        if (rR μ19 6 0 0) = 1 then
                                          if (rR μ19 6 0 0) = 1 then
                                            if (rI μ19 7 0 4) = 7 then
                                              if (rR μ19 6 0 0) = 1 then
                                                bV (X6_advance μ19) fun μ24 =>
                                                  if (rR μ24 6 0 0) = 1 then
                                                    bI (X6_takeNumber 0 (rI μ12 7 0 6) μ24) fun x26 μ27 =>
                                                      if x26 = 0 then
                                                        some (0, μ27)
                                                      else
                                                        if (rR μ27 6 0 0) = 1 then
                                                          X5_readReach_J152 (rI μ12 7 0 6) (rI μ19 7 0 6) (rI μ27 7 0 6) μ27
                                                        else none
                                                  else none
                                              else none
                                            else
                                              X5_readReach_J152 (rI μ12 7 0 6) (rI μ19 7 0 6) 0 μ19
                                          else none
                                        else none
                                  else none
                            else none
                          else none
                    else none
              else none
      else none
    else
      if (rR μ 6 0 0) = 1 then
        bI (X6_fail 6 μ) fun x30 μ31 =>
          if x30 = 0 ∨ x30 = 1 then some (x30, μ31) else none
      else none
  else none
theorem tX5_readReach (μ : sM) : sMt yX5_readReach cX5_readReach 4 (some .boolean) 4 [vr 6 0] μ (oI (X5_readReach μ)) := by
  refine sMt_of (own := 5) (bl := true) (by decide +kernel) rfl (Nat.le_of_ble_eq_true rfl) (fun r ρ h => ?_) ?_
  · obtain ⟨q, -, hq⟩ := Option.map_eq_some_iff.mp h
    cases hq
    exact Or.inr ⟨rfl, rfl⟩
  · unfold X5_readReach
    show sOk 5 cX5_readReach 4 4 true 0 [(0, vr 6 0)] [] μ _
    refine sBk (lo' := [(0, vr 6 0)]) (st' := [vr 6 0]) (μ' := μ) (pc' := 1) [(.aload_n 0, 0, 0, 0, 0)] (by decide +kernel) rfl rfl ?_
    refine sCk oI rfl (fun h1 => ?_)
    refine sGr (idx := 15) (ci := 5) (sl := 1) (n := 4) (by decide +kernel) rfl rfl h1 ?_
    refine sBk (lo' := [(0, vr 6 0)]) (st' := [vi 6, vi (rI μ 4 4 0)]) (μ' := μ) (pc' := 12) [(.getfield 81, 4, 8, 0, 0), (.getfield 85, 3, 0, 0, 0), (.bipush 6, 0, 0, 6, 0)] (by decide +kernel) rfl rfl ?_
    refine sIc_lt oI (off := 13) (tgt := 25) (by decide +kernel) (by decide) (fun _ => ?_) (fun _ => ?_)
    · refine sBk (lo' := [(0, vr 6 0)]) (st' := [vr 6 0]) (μ' := μ) (pc' := 26) [(.aload_n 0, 0, 0, 0, 0)] (by decide +kernel) rfl rfl ?_
      refine sCk oI rfl (fun h2 => ?_)
      refine sGr (idx := 9) (ci := 5) (sl := 0) (n := 0) (by decide +kernel) rfl rfl h2 ?_
      refine sCvV oI rfl (ci := 6) (q := (7, 0)) (avs := []) (rest := []) (tX6_advance μ) (by decide) (by decide +kernel) lk_5_56 yv_X6_advance rfl (by decide) rfl rfl rfl (Nat.le_of_ble_eq_true rfl) (fun μ4 => ?_)
      refine sBk (lo' := [(0, vr 6 0)]) (st' := [vr 6 0]) (μ' := μ4) (pc' := 33) [(.aload_n 0, 0, 0, 0, 0)] (by decide +kernel) rfl rfl ?_
      refine sCvI oI rfl (ci := 5) (q := (6, 0)) (avs := []) (rest := []) (tX5_takeNewName μ4) (by decide) (by decide +kernel) lk_5_90 yv_X5_takeNewName rfl (by decide) rfl rfl rfl (Nat.le_of_ble_eq_true rfl) (fun x5 μ6 => ?_)
      refine sIf_eq oI (off := 28) (tgt := 64) (by decide +kernel) (by decide) (fun _ => ?_) (fun _ => ?_)
      · refine sBk (lo' := [(0, vr 6 0)]) (st' := [vi 0]) (μ' := μ6) (pc' := 65) [(.iconst 0, 0, 0, 0, 0)] (by decide +kernel) rfl rfl ?_
        exact sRi (by decide +kernel) (fun _ => Or.inl rfl)
      · refine sBk (lo' := [(0, vr 6 0)]) (st' := [vr 6 0]) (μ' := μ6) (pc' := 40) [(.aload_n 0, 0, 0, 0, 0)] (by decide +kernel) rfl rfl ?_
        refine sCk oI rfl (fun h7 => ?_)
        refine sGr (idx := 9) (ci := 5) (sl := 0) (n := 0) (by decide +kernel) rfl rfl h7 ?_
        refine sBk (lo' := [(0, vr 6 0)]) (st' := [vi 5, vr 7 0]) (μ' := μ6) (pc' := 44) [(.iconst 5, 0, 0, 5, 0)] (by decide +kernel) rfl rfl ?_
        refine sCvI oI rfl (ci := 6) (q := (7, 0)) (avs := [vi 5]) (rest := []) (tX6_takeWord 5 μ6) (by decide) (by decide +kernel) lk_5_93 yv_X6_takeWord rfl (by decide) rfl rfl rfl (Nat.le_of_ble_eq_true rfl) (fun x8 μ9 => ?_)
        refine sIf_eq oI (off := 17) (tgt := 64) (by decide +kernel) (by decide) (fun _ => ?_) (fun _ => ?_)
        · refine sBk (lo' := [(0, vr 6 0)]) (st' := [vi 0]) (μ' := μ9) (pc' := 65) [(.iconst 0, 0, 0, 0, 0)] (by decide +kernel) rfl rfl ?_
          exact sRi (by decide +kernel) (fun _ => Or.inl rfl)
        · refine sBk (lo' := [(0, vr 6 0)]) (st' := [vr 6 0]) (μ' := μ9) (pc' := 51) [(.aload_n 0, 0, 0, 0, 0)] (by decide +kernel) rfl rfl ?_
          refine sCk oI rfl (fun h10 => ?_)
          refine sGr (idx := 9) (ci := 5) (sl := 0) (n := 0) (by decide +kernel) rfl rfl h10 ?_
          refine sBk (lo' := [(0, vr 6 0)]) (st' := [vi 999, vi 0, vr 7 0]) (μ' := μ9) (pc' := 58) [(.iconst 0, 0, 0, 0, 0), (.sipush 999, 0, 0, 999, 0)] (by decide +kernel) rfl rfl ?_
          refine sCvI oI rfl (ci := 6) (q := (7, 0)) (avs := [vi 0, vi 999]) (rest := []) (tX6_takeNumber 0 999 μ9) (by decide) (by decide +kernel) lk_5_59 yv_X6_takeNumber rfl (by decide) rfl rfl rfl (Nat.le_of_ble_eq_true rfl) (fun x11 μ12 => ?_)
          refine sIf_ne oI (off := 5) (tgt := 66) (by decide +kernel) (by decide) (fun _ => ?_) (fun _ => ?_)
          · refine sBk (lo' := [(0, vr 6 0)]) (st' := [vr 6 0]) (μ' := μ12) (pc' := 67) [(.aload_n 0, 0, 0, 0, 0)] (by decide +kernel) rfl rfl ?_
            refine sCk oI rfl (fun h13 => ?_)
            refine sGr (idx := 9) (ci := 5) (sl := 0) (n := 0) (by decide +kernel) rfl rfl h13 ?_
            refine sBk (lo' := [(1, vi (rI μ12 7 0 6)), (0, vr 6 0)]) (st' := [vr 6 0]) (μ' := μ12) (pc' := 75) [(.getfield 63, 6, 6, 0, 0), (.istore_n 1, 0, 0, 0, 0), (.aload_n 0, 0, 0, 0, 0)] (by decide +kernel) rfl rfl ?_
            refine sCk oI rfl (fun h14 => ?_)
            refine sGr (idx := 9) (ci := 5) (sl := 0) (n := 0) (by decide +kernel) rfl rfl h14 ?_
            refine sBk (lo' := [(1, vi (rI μ12 7 0 6)), (0, vr 6 0)]) (st' := [vi 6, vr 7 0]) (μ' := μ12) (pc' := 80) [(.bipush 6, 0, 0, 6, 0)] (by decide +kernel) rfl rfl ?_
            refine sCvI oI rfl (ci := 6) (q := (7, 0)) (avs := [vi 6]) (rest := []) (tX6_takeWord 6 μ12) (by decide) (by decide +kernel) lk_5_93 yv_X6_takeWord rfl (by decide) rfl rfl rfl (Nat.le_of_ble_eq_true rfl) (fun x15 μ16 => ?_)
            refine sIf_eq oI (off := 16) (tgt := 99) (by decide +kernel) (by decide) (fun _ => ?_) (fun _ => ?_)
            · refine sBk (lo' := [(1, vi (rI μ12 7 0 6)), (0, vr 6 0)]) (st' := [vi 0]) (μ' := μ16) (pc' := 100) [(.iconst 0, 0, 0, 0, 0)] (by decide +kernel) rfl rfl ?_
              exact sRi (by decide +kernel) (fun _ => Or.inl rfl)
            · refine sBk (lo' := [(1, vi (rI μ12 7 0 6)), (0, vr 6 0)]) (st' := [vr 6 0]) (μ' := μ16) (pc' := 87) [(.aload_n 0, 0, 0, 0, 0)] (by decide +kernel) rfl rfl ?_
              refine sCk oI rfl (fun h17 => ?_)
              refine sGr (idx := 9) (ci := 5) (sl := 0) (n := 0) (by decide +kernel) rfl rfl h17 ?_
              refine sBk (lo' := [(1, vi (rI μ12 7 0 6)), (0, vr 6 0)]) (st' := [vi 99, vi 0, vr 7 0]) (μ' := μ16) (pc' := 93) [(.iconst 0, 0, 0, 0, 0), (.bipush 99, 0, 0, 99, 0)] (by decide +kernel) rfl rfl ?_
              refine sCvI oI rfl (ci := 6) (q := (7, 0)) (avs := [vi 0, vi 99]) (rest := []) (tX6_takeNumber 0 99 μ16) (by decide) (by decide +kernel) lk_5_59 yv_X6_takeNumber rfl (by decide) rfl rfl rfl (Nat.le_of_ble_eq_true rfl) (fun x18 μ19 => ?_)
              refine sIf_ne oI (off := 5) (tgt := 101) (by decide +kernel) (by decide) (fun _ => ?_) (fun _ => ?_)
              · refine sBk (lo' := [(1, vi (rI μ12 7 0 6)), (0, vr 6 0)]) (st' := [vr 6 0]) (μ' := μ19) (pc' := 102) [(.aload_n 0, 0, 0, 0, 0)] (by decide +kernel) rfl rfl ?_
                refine sCk oI rfl (fun h20 => ?_)
                refine sGr (idx := 9) (ci := 5) (sl := 0) (n := 0) (by decide +kernel) rfl rfl h20 ?_
                refine sBk (lo' := [(3, vi 0), (2, vi (rI μ19 7 0 6)), (1, vi (rI μ12 7 0 6)), (0, vr 6 0)]) (st' := [vr 6 0]) (μ' := μ19) (pc' := 112) [(.getfield 63, 6, 6, 0, 0), (.istore_n 2, 0, 0, 0, 0), (.iconst 0, 0, 0, 0, 0), (.istore_n 3, 0, 0, 0, 0), (.aload_n 0, 0, 0, 0, 0)] (by decide +kernel) rfl rfl ?_
                refine sCk oI rfl (fun h21 => ?_)
                refine sGr (idx := 9) (ci := 5) (sl := 0) (n := 0) (by decide +kernel) rfl rfl h21 ?_
                refine sBk (lo' := [(3, vi 0), (2, vi (rI μ19 7 0 6)), (1, vi (rI μ12 7 0 6)), (0, vr 6 0)]) (st' := [vi 7, vi (rI μ19 7 0 4)]) (μ' := μ19) (pc' := 120) [(.getfield 28, 6, 4, 0, 0), (.bipush 7, 0, 0, 7, 0)] (by decide +kernel) rfl rfl ?_
                refine sIc_ne oI (off := 32) (tgt := 152) (by decide +kernel) (by decide) (fun _ => ?_) (fun _ => ?_)
                · refine sWk (lo' := [(0, vr 6 0), (1, vi (rI μ12 7 0 6)), (2, vi (rI μ19 7 0 6)), (3, vi 0)]) [3, 2, 1, 0] rfl ?_
                  exact X5_readReach_J152_ok (rI μ12 7 0 6) (rI μ19 7 0 6) 0 μ19
                · refine sBk (lo' := [(3, vi 0), (2, vi (rI μ19 7 0 6)), (1, vi (rI μ12 7 0 6)), (0, vr 6 0)]) (st' := [vr 6 0]) (μ' := μ19) (pc' := 124) [(.aload_n 0, 0, 0, 0, 0)] (by decide +kernel) rfl rfl ?_
                  refine sCk oI rfl (fun h22 => ?_)
                  refine sGr (idx := 9) (ci := 5) (sl := 0) (n := 0) (by decide +kernel) rfl rfl h22 ?_
                  refine sCvV oI rfl (ci := 6) (q := (7, 0)) (avs := []) (rest := []) (tX6_advance μ19) (by decide) (by decide +kernel) lk_5_56 yv_X6_advance rfl (by decide) rfl rfl rfl (Nat.le_of_ble_eq_true rfl) (fun μ24 => ?_)
                  refine sBk (lo' := [(3, vi 0), (2, vi (rI μ19 7 0 6)), (1, vi (rI μ12 7 0 6)), (0, vr 6 0)]) (st' := [vr 6 0]) (μ' := μ24) (pc' := 131) [(.aload_n 0, 0, 0, 0, 0)] (by decide +kernel) rfl rfl ?_
                  refine sCk oI rfl (fun h25 => ?_)
                  refine sGr (idx := 9) (ci := 5) (sl := 0) (n := 0) (by decide +kernel) rfl rfl h25 ?_
                  refine sBk (lo' := [(3, vi 0), (2, vi (rI μ19 7 0 6)), (1, vi (rI μ12 7 0 6)), (0, vr 6 0)]) (st' := [vi (rI μ12 7 0 6), vi 0, vr 7 0]) (μ' := μ24) (pc' := 136) [(.iconst 0, 0, 0, 0, 0), (.iload_n 1, 0, 0, 0, 0)] (by decide +kernel) rfl rfl ?_
                  refine sCvI oI rfl (ci := 6) (q := (7, 0)) (avs := [vi 0, vi (rI μ12 7 0 6)]) (rest := []) (tX6_takeNumber 0 (rI μ12 7 0 6) μ24) (by decide) (by decide +kernel) lk_5_59 yv_X6_takeNumber rfl (by decide) rfl rfl rfl (Nat.le_of_ble_eq_true rfl) (fun x26 μ27 => ?_)
                  refine sIf_ne oI (off := 5) (tgt := 144) (by decide +kernel) (by decide) (fun _ => ?_) (fun _ => ?_)
                  · refine sBk (lo' := [(3, vi 0), (2, vi (rI μ19 7 0 6)), (1, vi (rI μ12 7 0 6)), (0, vr 6 0)]) (st' := [vr 6 0]) (μ' := μ27) (pc' := 145) [(.aload_n 0, 0, 0, 0, 0)] (by decide +kernel) rfl rfl ?_
                    refine sCk oI rfl (fun h28 => ?_)
                    refine sGr (idx := 9) (ci := 5) (sl := 0) (n := 0) (by decide +kernel) rfl rfl h28 ?_
                    refine sBk (lo' := [(3, vi (rI μ27 7 0 6)), (2, vi (rI μ19 7 0 6)), (1, vi (rI μ12 7 0 6)), (0, vr 6 0)]) (st' := []) (μ' := μ27) (pc' := 152) [(.getfield 63, 6, 6, 0, 0), (.istore_n 3, 0, 0, 0, 0)] (by decide +kernel) rfl rfl ?_
                    refine sWk (lo' := [(0, vr 6 0), (1, vi (rI μ12 7 0 6)), (2, vi (rI μ19 7 0 6)), (3, vi (rI μ27 7 0 6))]) [3, 2, 1, 0] rfl ?_
                    exact X5_readReach_J152_ok (rI μ12 7 0 6) (rI μ19 7 0 6) (rI μ27 7 0 6) μ27
                  · refine sBk (lo' := [(3, vi 0), (2, vi (rI μ19 7 0 6)), (1, vi (rI μ12 7 0 6)), (0, vr 6 0)]) (st' := [vi 0]) (μ' := μ27) (pc' := 143) [(.iconst 0, 0, 0, 0, 0)] (by decide +kernel) rfl rfl ?_
                    exact sRi (by decide +kernel) (fun _ => Or.inl rfl)
              · refine sBk (lo' := [(1, vi (rI μ12 7 0 6)), (0, vr 6 0)]) (st' := [vi 0]) (μ' := μ19) (pc' := 100) [(.iconst 0, 0, 0, 0, 0)] (by decide +kernel) rfl rfl ?_
                exact sRi (by decide +kernel) (fun _ => Or.inl rfl)
          · refine sBk (lo' := [(0, vr 6 0)]) (st' := [vi 0]) (μ' := μ12) (pc' := 65) [(.iconst 0, 0, 0, 0, 0)] (by decide +kernel) rfl rfl ?_
            exact sRi (by decide +kernel) (fun _ => Or.inl rfl)
    · refine sBk (lo' := [(0, vr 6 0)]) (st' := [vr 6 0]) (μ' := μ) (pc' := 16) [(.aload_n 0, 0, 0, 0, 0)] (by decide +kernel) rfl rfl ?_
      refine sCk oI rfl (fun h29 => ?_)
      refine sGr (idx := 9) (ci := 5) (sl := 0) (n := 0) (by decide +kernel) rfl rfl h29 ?_
      refine sBk (lo' := [(0, vr 6 0)]) (st' := [vi 6, vr 7 0]) (μ' := μ) (pc' := 21) [(.bipush 6, 0, 0, 6, 0)] (by decide +kernel) rfl rfl ?_
      refine sCvI oI rfl (ci := 6) (q := (7, 0)) (avs := [vi 6]) (rest := []) (tX6_fail 6 μ) (by decide) (by decide +kernel) lk_5_53 yv_X6_fail rfl (by decide) rfl rfl rfl (Nat.le_of_ble_eq_true rfl) (fun x30 μ31 => ?_)
      exact sCk oI rfl (fun h => sRi (by decide +kernel) (fun _ => h))
/-! ClockRiver$RiverReader.readMill -/
def X5_readMill (μ : sM) : Option (Int32 × sM) :=
  if (rR μ 6 0 1) = 5 then
    if (rI μ 3 4 0) < 6 then
      if (rR μ 6 0 0) = 1 then
        bV (X6_advance μ) fun μ4 =>
          bI (X5_takeNewName μ4) fun x5 μ6 =>
            if x5 = 0 then
              some (0, μ6)
            else
              if (rR μ6 6 0 0) = 1 then
                bI (X6_takeWord 9 μ6) fun x8 μ9 =>
                  if x8 = 0 then
                    some (0, μ9)
                  else
                    if (rR μ9 6 0 0) = 1 then
                      if (rI μ9 7 0 4) = 27 then
                        if (rR μ9 6 0 0) = 1 then
                          if (rR μ9 6 0 1) = 5 then
                            if (rR μ9 6 0 1) = 5 then
                              bI (X4_placeOf_28 (rL μ9 7 0 5) 4 (rI μ9 4 4 0) μ9) fun x14 μ15 =>
                                if x14 = (-1) then
                                  if (rR μ15 6 0 0) = 1 then
                                    bI (X6_fail 3 μ15) fun x33 μ34 =>
                                      if x33 = 0 ∨ x33 = 1 then some (x33, μ34) else none
                                  else none
                                else
                                  if (rR μ15 6 0 0) = 1 then
                                    bV (X6_advance μ15) fun μ18 =>
                                      if (rR μ18 6 0 0) = 1 then
                                        bI (X6_takeWord 10 μ18) fun x20 μ21 =>
                                          if x20 = 0 then
                                            some (0, μ21)
                                          else
                                            if (rR μ21 6 0 0) = 1 then
                                              bI (X6_takeNumber 1 99 μ21) fun x23 μ24 =>
                                                if x23 = 0 then
                                                  some (0, μ24)
                                                else
                                                  if (rR μ24 6 0 1) = 5 then
                                                    if (rR μ24 6 0 0) = 1 then
                                                      bV (X2_add 4 (rL μ24 6 0 2) x14 (rI μ24 7 0 6) μ24) fun μ28 =>
                                                        if (rR μ28 6 0 0) = 1 then
                                                          bI (X6_takeEnd μ28) fun x30 μ31 =>
                                                            if x30 = 0 ∨ x30 = 1 then some (x30, μ31) else none
                                                        else none
                                                    else none
                                                  else none
                                            else none
                                      else none
                                  else none
                            else none
                          else none
                        else none
                      else
                        if (rR μ9 6 0 0) = 1 then
                          bI (X6_failToStand μ9) fun x36 μ37 =>
                            if x36 = 0 ∨ x36 = 1 then some (x36, μ37) else none
                        else none
                    else none
              else none
      else none
    else
      if (rR μ 6 0 0) = 1 then
        bI (X6_fail 6 μ) fun x39 μ40 =>
          if x39 = 0 ∨ x39 = 1 then some (x39, μ40) else none
      else none
  else none
theorem tX5_readMill (μ : sM) : sMt yX5_readMill cX5_readMill 2 (some .boolean) 4 [vr 6 0] μ (oI (X5_readMill μ)) := by
  refine sMt_of (own := 5) (bl := true) (by decide +kernel) rfl (Nat.le_of_ble_eq_true rfl) (fun r ρ h => ?_) ?_
  · obtain ⟨q, -, hq⟩ := Option.map_eq_some_iff.mp h
    cases hq
    exact Or.inr ⟨rfl, rfl⟩
  · unfold X5_readMill
    show sOk 5 cX5_readMill 2 4 true 0 [(0, vr 6 0)] [] μ _
    refine sBk (lo' := [(0, vr 6 0)]) (st' := [vr 6 0]) (μ' := μ) (pc' := 1) [(.aload_n 0, 0, 0, 0, 0)] (by decide +kernel) rfl rfl ?_
    refine sCk oI rfl (fun h1 => ?_)
    refine sGr (idx := 15) (ci := 5) (sl := 1) (n := 4) (by decide +kernel) rfl rfl h1 ?_
    refine sBk (lo' := [(0, vr 6 0)]) (st' := [vi 6, vi (rI μ 3 4 0)]) (μ' := μ) (pc' := 12) [(.getfield 104, 4, 9, 0, 0), (.getfield 108, 2, 0, 0, 0), (.bipush 6, 0, 0, 6, 0)] (by decide +kernel) rfl rfl ?_
    refine sIc_lt oI (off := 13) (tgt := 25) (by decide +kernel) (by decide) (fun _ => ?_) (fun _ => ?_)
    · refine sBk (lo' := [(0, vr 6 0)]) (st' := [vr 6 0]) (μ' := μ) (pc' := 26) [(.aload_n 0, 0, 0, 0, 0)] (by decide +kernel) rfl rfl ?_
      refine sCk oI rfl (fun h2 => ?_)
      refine sGr (idx := 9) (ci := 5) (sl := 0) (n := 0) (by decide +kernel) rfl rfl h2 ?_
      refine sCvV oI rfl (ci := 6) (q := (7, 0)) (avs := []) (rest := []) (tX6_advance μ) (by decide) (by decide +kernel) lk_5_56 yv_X6_advance rfl (by decide) rfl rfl rfl (Nat.le_of_ble_eq_true rfl) (fun μ4 => ?_)
      refine sBk (lo' := [(0, vr 6 0)]) (st' := [vr 6 0]) (μ' := μ4) (pc' := 33) [(.aload_n 0, 0, 0, 0, 0)] (by decide +kernel) rfl rfl ?_
      refine sCvI oI rfl (ci := 5) (q := (6, 0)) (avs := []) (rest := []) (tX5_takeNewName μ4) (by decide) (by decide +kernel) lk_5_90 yv_X5_takeNewName rfl (by decide) rfl rfl rfl (Nat.le_of_ble_eq_true rfl) (fun x5 μ6 => ?_)
      refine sIf_eq oI (off := 15) (tgt := 51) (by decide +kernel) (by decide) (fun _ => ?_) (fun _ => ?_)
      · refine sBk (lo' := [(0, vr 6 0)]) (st' := [vi 0]) (μ' := μ6) (pc' := 52) [(.iconst 0, 0, 0, 0, 0)] (by decide +kernel) rfl rfl ?_
        exact sRi (by decide +kernel) (fun _ => Or.inl rfl)
      · refine sBk (lo' := [(0, vr 6 0)]) (st' := [vr 6 0]) (μ' := μ6) (pc' := 40) [(.aload_n 0, 0, 0, 0, 0)] (by decide +kernel) rfl rfl ?_
        refine sCk oI rfl (fun h7 => ?_)
        refine sGr (idx := 9) (ci := 5) (sl := 0) (n := 0) (by decide +kernel) rfl rfl h7 ?_
        refine sBk (lo' := [(0, vr 6 0)]) (st' := [vi 9, vr 7 0]) (μ' := μ6) (pc' := 45) [(.bipush 9, 0, 0, 9, 0)] (by decide +kernel) rfl rfl ?_
        refine sCvI oI rfl (ci := 6) (q := (7, 0)) (avs := [vi 9]) (rest := []) (tX6_takeWord 9 μ6) (by decide) (by decide +kernel) lk_5_93 yv_X6_takeWord rfl (by decide) rfl rfl rfl (Nat.le_of_ble_eq_true rfl) (fun x8 μ9 => ?_)
        refine sIf_ne oI (off := 5) (tgt := 53) (by decide +kernel) (by decide) (fun _ => ?_) (fun _ => ?_)
        · refine sBk (lo' := [(0, vr 6 0)]) (st' := [vr 6 0]) (μ' := μ9) (pc' := 54) [(.aload_n 0, 0, 0, 0, 0)] (by decide +kernel) rfl rfl ?_
          refine sCk oI rfl (fun h10 => ?_)
          refine sGr (idx := 9) (ci := 5) (sl := 0) (n := 0) (by decide +kernel) rfl rfl h10 ?_
          refine sBk (lo' := [(0, vr 6 0)]) (st' := [vi 27, vi (rI μ9 7 0 4)]) (μ' := μ9) (pc' := 62) [(.getfield 28, 6, 4, 0, 0), (.bipush 27, 0, 0, 27, 0)] (by decide +kernel) rfl rfl ?_
          refine sIc_eq oI (off := 11) (tgt := 73) (by decide +kernel) (by decide) (fun _ => ?_) (fun _ => ?_)
          · refine sBk (lo' := [(0, vr 6 0)]) (st' := [vr 6 0]) (μ' := μ9) (pc' := 74) [(.aload_n 0, 0, 0, 0, 0)] (by decide +kernel) rfl rfl ?_
            refine sCk oI rfl (fun h11 => ?_)
            refine sGr (idx := 9) (ci := 5) (sl := 0) (n := 0) (by decide +kernel) rfl rfl h11 ?_
            refine sBk (lo' := [(0, vr 6 0)]) (st' := [vr 6 0, vl (rL μ9 7 0 5)]) (μ' := μ9) (pc' := 81) [(.getfield 111, 6, 5, 0, 0), (.aload_n 0, 0, 0, 0, 0)] (by decide +kernel) rfl rfl ?_
            refine sCk oI rfl (fun h12 => ?_)
            refine sGr (idx := 15) (ci := 5) (sl := 1) (n := 4) (by decide +kernel) rfl rfl h12 ?_
            refine sBk (lo' := [(0, vr 6 0)]) (st' := [vr 6 0, vr 28 4, vl (rL μ9 7 0 5)]) (μ' := μ9) (pc' := 91) [(.getfield 81, 4, 8, 0, 0), (.getfield 114, 3, 1, 0, 0), (.aload_n 0, 0, 0, 0, 0)] (by decide +kernel) rfl rfl ?_
            refine sCk oI rfl (fun h13 => ?_)
            refine sGr (idx := 15) (ci := 5) (sl := 1) (n := 4) (by decide +kernel) rfl rfl h13 ?_
            refine sBk (lo' := [(0, vr 6 0)]) (st' := [vi (rI μ9 4 4 0), vr 28 4, vl (rL μ9 7 0 5)]) (μ' := μ9) (pc' := 100) [(.getfield 81, 4, 8, 0, 0), (.getfield 85, 3, 0, 0, 0)] (by decide +kernel) rfl rfl ?_
            refine sCsI oI rfl (avs := [vl (rL μ9 7 0 5), vr 28 4, vi (rI μ9 4 4 0)]) (rest := []) (tX4_placeOf_28 (rL μ9 7 0 5) 4 (rI μ9 4 4 0) μ9) (by decide) (by decide +kernel) lk_5_118 ys_X4_placeOf rfl rfl (Nat.le_of_ble_eq_true rfl) (fun x14 μ15 => ?_)
            refine sBk (lo' := [(1, vi x14), (0, vr 6 0)]) (st' := [vi (-1), vi x14]) (μ' := μ15) (pc' := 106) [(.istore_n 1, 0, 0, 0, 0), (.iload_n 1, 0, 0, 0, 0), (.iconst (-1), 0, 0, (-1), 0)] (by decide +kernel) rfl rfl ?_
            refine sIc_ne oI (off := 12) (tgt := 118) (by decide +kernel) (by decide) (fun _ => ?_) (fun _ => ?_)
            · refine sBk (lo' := [(1, vi x14), (0, vr 6 0)]) (st' := [vr 6 0]) (μ' := μ15) (pc' := 119) [(.aload_n 0, 0, 0, 0, 0)] (by decide +kernel) rfl rfl ?_
              refine sCk oI rfl (fun h16 => ?_)
              refine sGr (idx := 9) (ci := 5) (sl := 0) (n := 0) (by decide +kernel) rfl rfl h16 ?_
              refine sCvV oI rfl (ci := 6) (q := (7, 0)) (avs := []) (rest := []) (tX6_advance μ15) (by decide) (by decide +kernel) lk_5_56 yv_X6_advance rfl (by decide) rfl rfl rfl (Nat.le_of_ble_eq_true rfl) (fun μ18 => ?_)
              refine sBk (lo' := [(1, vi x14), (0, vr 6 0)]) (st' := [vr 6 0]) (μ' := μ18) (pc' := 126) [(.aload_n 0, 0, 0, 0, 0)] (by decide +kernel) rfl rfl ?_
              refine sCk oI rfl (fun h19 => ?_)
              refine sGr (idx := 9) (ci := 5) (sl := 0) (n := 0) (by decide +kernel) rfl rfl h19 ?_
              refine sBk (lo' := [(1, vi x14), (0, vr 6 0)]) (st' := [vi 10, vr 7 0]) (μ' := μ18) (pc' := 131) [(.bipush 10, 0, 0, 10, 0)] (by decide +kernel) rfl rfl ?_
              refine sCvI oI rfl (ci := 6) (q := (7, 0)) (avs := [vi 10]) (rest := []) (tX6_takeWord 10 μ18) (by decide) (by decide +kernel) lk_5_93 yv_X6_takeWord rfl (by decide) rfl rfl rfl (Nat.le_of_ble_eq_true rfl) (fun x20 μ21 => ?_)
              refine sIf_eq oI (off := 16) (tgt := 150) (by decide +kernel) (by decide) (fun _ => ?_) (fun _ => ?_)
              · refine sBk (lo' := [(1, vi x14), (0, vr 6 0)]) (st' := [vi 0]) (μ' := μ21) (pc' := 151) [(.iconst 0, 0, 0, 0, 0)] (by decide +kernel) rfl rfl ?_
                exact sRi (by decide +kernel) (fun _ => Or.inl rfl)
              · refine sBk (lo' := [(1, vi x14), (0, vr 6 0)]) (st' := [vr 6 0]) (μ' := μ21) (pc' := 138) [(.aload_n 0, 0, 0, 0, 0)] (by decide +kernel) rfl rfl ?_
                refine sCk oI rfl (fun h22 => ?_)
                refine sGr (idx := 9) (ci := 5) (sl := 0) (n := 0) (by decide +kernel) rfl rfl h22 ?_
                refine sBk (lo' := [(1, vi x14), (0, vr 6 0)]) (st' := [vi 99, vi 1, vr 7 0]) (μ' := μ21) (pc' := 144) [(.iconst 1, 0, 0, 1, 0), (.bipush 99, 0, 0, 99, 0)] (by decide +kernel) rfl rfl ?_
                refine sCvI oI rfl (ci := 6) (q := (7, 0)) (avs := [vi 1, vi 99]) (rest := []) (tX6_takeNumber 1 99 μ21) (by decide) (by decide +kernel) lk_5_59 yv_X6_takeNumber rfl (by decide) rfl rfl rfl (Nat.le_of_ble_eq_true rfl) (fun x23 μ24 => ?_)
                refine sIf_ne oI (off := 5) (tgt := 152) (by decide +kernel) (by decide) (fun _ => ?_) (fun _ => ?_)
                · refine sBk (lo' := [(1, vi x14), (0, vr 6 0)]) (st' := [vr 6 0]) (μ' := μ24) (pc' := 153) [(.aload_n 0, 0, 0, 0, 0)] (by decide +kernel) rfl rfl ?_
                  refine sCk oI rfl (fun h25 => ?_)
                  refine sGr (idx := 15) (ci := 5) (sl := 1) (n := 4) (by decide +kernel) rfl rfl h25 ?_
                  refine sBk (lo' := [(1, vi x14), (0, vr 6 0)]) (st' := [vr 6 0, vi x14, vl (rL μ24 6 0 2), vr 3 4]) (μ' := μ24) (pc' := 165) [(.getfield 104, 4, 9, 0, 0), (.aload_n 0, 0, 0, 0, 0), (.getfield 96, 5, 2, 0, 0), (.iload_n 1, 0, 0, 0, 0), (.aload_n 0, 0, 0, 0, 0)] (by decide +kernel) rfl rfl ?_
                  refine sCk oI rfl (fun h26 => ?_)
                  refine sGr (idx := 9) (ci := 5) (sl := 0) (n := 0) (by decide +kernel) rfl rfl h26 ?_
                  refine sBk (lo' := [(1, vi x14), (0, vr 6 0)]) (st' := [vi (rI μ24 7 0 6), vi x14, vl (rL μ24 6 0 2), vr 3 4]) (μ' := μ24) (pc' := 171) [(.getfield 63, 6, 6, 0, 0)] (by decide +kernel) rfl rfl ?_
                  refine sCvV oI rfl (ci := 2) (q := (3, 4)) (avs := [vl (rL μ24 6 0 2), vi x14, vi (rI μ24 7 0 6)]) (rest := []) (tX2_add 4 (rL μ24 6 0 2) x14 (rI μ24 7 0 6) μ24) (by decide) (by decide +kernel) lk_5_122 yv_X2_add rfl (by decide) rfl rfl rfl (Nat.le_of_ble_eq_true rfl) (fun μ28 => ?_)
                  refine sBk (lo' := [(1, vi x14), (0, vr 6 0)]) (st' := [vr 6 0]) (μ' := μ28) (pc' := 175) [(.aload_n 0, 0, 0, 0, 0)] (by decide +kernel) rfl rfl ?_
                  refine sCk oI rfl (fun h29 => ?_)
                  refine sGr (idx := 9) (ci := 5) (sl := 0) (n := 0) (by decide +kernel) rfl rfl h29 ?_
                  refine sCvI oI rfl (ci := 6) (q := (7, 0)) (avs := []) (rest := []) (tX6_takeEnd μ28) (by decide) (by decide +kernel) lk_5_78 yv_X6_takeEnd rfl (by decide) rfl rfl rfl (Nat.le_of_ble_eq_true rfl) (fun x30 μ31 => ?_)
                  exact sCk oI rfl (fun h => sRi (by decide +kernel) (fun _ => h))
                · refine sBk (lo' := [(1, vi x14), (0, vr 6 0)]) (st' := [vi 0]) (μ' := μ24) (pc' := 151) [(.iconst 0, 0, 0, 0, 0)] (by decide +kernel) rfl rfl ?_
                  exact sRi (by decide +kernel) (fun _ => Or.inl rfl)
            · refine sBk (lo' := [(1, vi x14), (0, vr 6 0)]) (st' := [vr 6 0]) (μ' := μ15) (pc' := 110) [(.aload_n 0, 0, 0, 0, 0)] (by decide +kernel) rfl rfl ?_
              refine sCk oI rfl (fun h32 => ?_)
              refine sGr (idx := 9) (ci := 5) (sl := 0) (n := 0) (by decide +kernel) rfl rfl h32 ?_
              refine sBk (lo' := [(1, vi x14), (0, vr 6 0)]) (st' := [vi 3, vr 7 0]) (μ' := μ15) (pc' := 114) [(.iconst 3, 0, 0, 3, 0)] (by decide +kernel) rfl rfl ?_
              refine sCvI oI rfl (ci := 6) (q := (7, 0)) (avs := [vi 3]) (rest := []) (tX6_fail 3 μ15) (by decide) (by decide +kernel) lk_5_53 yv_X6_fail rfl (by decide) rfl rfl rfl (Nat.le_of_ble_eq_true rfl) (fun x33 μ34 => ?_)
              exact sCk oI rfl (fun h => sRi (by decide +kernel) (fun _ => h))
          · refine sBk (lo' := [(0, vr 6 0)]) (st' := [vr 6 0]) (μ' := μ9) (pc' := 66) [(.aload_n 0, 0, 0, 0, 0)] (by decide +kernel) rfl rfl ?_
            refine sCk oI rfl (fun h35 => ?_)
            refine sGr (idx := 9) (ci := 5) (sl := 0) (n := 0) (by decide +kernel) rfl rfl h35 ?_
            refine sCvI oI rfl (ci := 6) (q := (7, 0)) (avs := []) (rest := []) (tX6_failToStand μ9) (by decide) (by decide +kernel) lk_5_50 yv_X6_failToStand rfl (by decide) rfl rfl rfl (Nat.le_of_ble_eq_true rfl) (fun x36 μ37 => ?_)
            exact sCk oI rfl (fun h => sRi (by decide +kernel) (fun _ => h))
        · refine sBk (lo' := [(0, vr 6 0)]) (st' := [vi 0]) (μ' := μ9) (pc' := 52) [(.iconst 0, 0, 0, 0, 0)] (by decide +kernel) rfl rfl ?_
          exact sRi (by decide +kernel) (fun _ => Or.inl rfl)
    · refine sBk (lo' := [(0, vr 6 0)]) (st' := [vr 6 0]) (μ' := μ) (pc' := 16) [(.aload_n 0, 0, 0, 0, 0)] (by decide +kernel) rfl rfl ?_
      refine sCk oI rfl (fun h38 => ?_)
      refine sGr (idx := 9) (ci := 5) (sl := 0) (n := 0) (by decide +kernel) rfl rfl h38 ?_
      refine sBk (lo' := [(0, vr 6 0)]) (st' := [vi 6, vr 7 0]) (μ' := μ) (pc' := 21) [(.bipush 6, 0, 0, 6, 0)] (by decide +kernel) rfl rfl ?_
      refine sCvI oI rfl (ci := 6) (q := (7, 0)) (avs := [vi 6]) (rest := []) (tX6_fail 6 μ) (by decide) (by decide +kernel) lk_5_53 yv_X6_fail rfl (by decide) rfl rfl rfl (Nat.le_of_ble_eq_true rfl) (fun x39 μ40 => ?_)
      exact sCk oI rfl (fun h => sRi (by decide +kernel) (fun _ => h))
/-! ClockRiver$RiverReader.readWinder -/
def X5_readWinder_J118 (v1 : Int32) (v2 : Int32) (μ : sM) : Option (Int32 × sM) :=
  if (rR μ 6 0 1) = 5 then
    bV (X10_add 4 (rL μ 6 0 2) v1 v2 μ) fun μ3 =>
      if (rR μ3 6 0 0) = 1 then
        bI (X6_takeEnd μ3) fun x5 μ6 =>
          if x5 = 0 ∨ x5 = 1 then some (x5, μ6) else none
      else none
  else none
theorem X5_readWinder_J118_ok (v1 : Int32) (v2 : Int32) (μ : sM) : sOk 5 cX5_readWinder 3 4 true 118 [(0, vr 6 0), (1, vi v1), (2, vi v2)] [] μ (oI (X5_readWinder_J118 v1 v2 μ)) := by
  unfold X5_readWinder_J118
  refine sBk (lo' := [(0, vr 6 0), (1, vi v1), (2, vi v2)]) (st' := [vr 6 0]) (μ' := μ) (pc' := 119) [(.aload_n 0, 0, 0, 0, 0)] (by decide +kernel) rfl rfl ?_
  refine sCk oI rfl (fun h1 => ?_)
  refine sGr (idx := 15) (ci := 5) (sl := 1) (n := 4) (by decide +kernel) rfl rfl h1 ?_
  refine sBk (lo' := [(0, vr 6 0), (1, vi v1), (2, vi v2)]) (st' := [vi v2, vi v1, vl (rL μ 6 0 2), vr 11 4]) (μ' := μ) (pc' := 131) [(.getfield 125, 4, 10, 0, 0), (.aload_n 0, 0, 0, 0, 0), (.getfield 96, 5, 2, 0, 0), (.iload_n 1, 0, 0, 0, 0), (.iload_n 2, 0, 0, 0, 0)] (by decide +kernel) rfl rfl ?_
  refine sCvV oI rfl (ci := 10) (q := (11, 4)) (avs := [vl (rL μ 6 0 2), vi v1, vi v2]) (rest := []) (tX10_add 4 (rL μ 6 0 2) v1 v2 μ) (by decide) (by decide +kernel) lk_5_132 yv_X10_add rfl (by decide) rfl rfl rfl (Nat.le_of_ble_eq_true rfl) (fun μ3 => ?_)
  refine sBk (lo' := [(0, vr 6 0), (1, vi v1), (2, vi v2)]) (st' := [vr 6 0]) (μ' := μ3) (pc' := 135) [(.aload_n 0, 0, 0, 0, 0)] (by decide +kernel) rfl rfl ?_
  refine sCk oI rfl (fun h4 => ?_)
  refine sGr (idx := 9) (ci := 5) (sl := 0) (n := 0) (by decide +kernel) rfl rfl h4 ?_
  refine sCvI oI rfl (ci := 6) (q := (7, 0)) (avs := []) (rest := []) (tX6_takeEnd μ3) (by decide) (by decide +kernel) lk_5_78 yv_X6_takeEnd rfl (by decide) rfl rfl rfl (Nat.le_of_ble_eq_true rfl) (fun x5 μ6 => ?_)
  exact sCk oI rfl (fun h => sRi (by decide +kernel) (fun _ => h))
def X5_readWinder (μ : sM) : Option (Int32 × sM) :=
  if (rR μ 6 0 1) = 5 then
    if (rI μ 11 4 0) < 6 then
      if (rR μ 6 0 0) = 1 then
        bV (X6_advance μ) fun μ4 =>
          bI (X5_takeNewName μ4) fun x5 μ6 =>
            if x5 = 0 then
              some (0, μ6)
            else
              if (rR μ6 6 0 0) = 1 then
                bI (X6_takeWord 12 μ6) fun x8 μ9 =>
                  if x8 = 0 then
                    some (0, μ9)
                  else
                    if (rR μ9 6 0 0) = 1 then
                      bI (X6_takeNumber 1 40 μ9) fun x11 μ12 =>
                        if x11 = 0 then
                          some (0, μ12)
                        else
                          if (rR μ12 6 0 0) = 1 then
                            if (rR μ12 6 0 0) = 1 then
                              if (rI μ12 7 0 4) = 13 then
                                if (rR μ12 6 0 0) = 1 then
                                  bV (X6_advance μ12) fun μ17 =>
                                    if (rR μ17 6 0 0) = 1 then
                                      bI (X6_takeNumber 0 99 μ17) fun x19 μ20 =>
                                        if x19 = 0 then
                                          some (0, μ20)
                                        else
                                          if (rR μ20 6 0 0) = 1 then
                                            X5_readWinder_J118 (rI μ12 7 0 6) (rI μ20 7 0 6) μ20
                                          else none
                                    else none
                                else none
                              else
                                X5_readWinder_J118 (rI μ12 7 0 6) 1 μ12
                            else none
                          else none
                    else none
              else none
      else none
    else
      if (rR μ 6 0 0) = 1 then
        bI (X6_fail 6 μ) fun x23 μ24 =>
          if x23 = 0 ∨ x23 = 1 then some (x23, μ24) else none
      else none
  else none
theorem tX5_readWinder (μ : sM) : sMt yX5_readWinder cX5_readWinder 3 (some .boolean) 4 [vr 6 0] μ (oI (X5_readWinder μ)) := by
  refine sMt_of (own := 5) (bl := true) (by decide +kernel) rfl (Nat.le_of_ble_eq_true rfl) (fun r ρ h => ?_) ?_
  · obtain ⟨q, -, hq⟩ := Option.map_eq_some_iff.mp h
    cases hq
    exact Or.inr ⟨rfl, rfl⟩
  · unfold X5_readWinder
    show sOk 5 cX5_readWinder 3 4 true 0 [(0, vr 6 0)] [] μ _
    refine sBk (lo' := [(0, vr 6 0)]) (st' := [vr 6 0]) (μ' := μ) (pc' := 1) [(.aload_n 0, 0, 0, 0, 0)] (by decide +kernel) rfl rfl ?_
    refine sCk oI rfl (fun h1 => ?_)
    refine sGr (idx := 15) (ci := 5) (sl := 1) (n := 4) (by decide +kernel) rfl rfl h1 ?_
    refine sBk (lo' := [(0, vr 6 0)]) (st' := [vi 6, vi (rI μ 11 4 0)]) (μ' := μ) (pc' := 12) [(.getfield 125, 4, 10, 0, 0), (.getfield 129, 10, 0, 0, 0), (.bipush 6, 0, 0, 6, 0)] (by decide +kernel) rfl rfl ?_
    refine sIc_lt oI (off := 13) (tgt := 25) (by decide +kernel) (by decide) (fun _ => ?_) (fun _ => ?_)
    · refine sBk (lo' := [(0, vr 6 0)]) (st' := [vr 6 0]) (μ' := μ) (pc' := 26) [(.aload_n 0, 0, 0, 0, 0)] (by decide +kernel) rfl rfl ?_
      refine sCk oI rfl (fun h2 => ?_)
      refine sGr (idx := 9) (ci := 5) (sl := 0) (n := 0) (by decide +kernel) rfl rfl h2 ?_
      refine sCvV oI rfl (ci := 6) (q := (7, 0)) (avs := []) (rest := []) (tX6_advance μ) (by decide) (by decide +kernel) lk_5_56 yv_X6_advance rfl (by decide) rfl rfl rfl (Nat.le_of_ble_eq_true rfl) (fun μ4 => ?_)
      refine sBk (lo' := [(0, vr 6 0)]) (st' := [vr 6 0]) (μ' := μ4) (pc' := 33) [(.aload_n 0, 0, 0, 0, 0)] (by decide +kernel) rfl rfl ?_
      refine sCvI oI rfl (ci := 5) (q := (6, 0)) (avs := []) (rest := []) (tX5_takeNewName μ4) (by decide) (by decide +kernel) lk_5_90 yv_X5_takeNewName rfl (by decide) rfl rfl rfl (Nat.le_of_ble_eq_true rfl) (fun x5 μ6 => ?_)
      refine sIf_eq oI (off := 28) (tgt := 64) (by decide +kernel) (by decide) (fun _ => ?_) (fun _ => ?_)
      · refine sBk (lo' := [(0, vr 6 0)]) (st' := [vi 0]) (μ' := μ6) (pc' := 65) [(.iconst 0, 0, 0, 0, 0)] (by decide +kernel) rfl rfl ?_
        exact sRi (by decide +kernel) (fun _ => Or.inl rfl)
      · refine sBk (lo' := [(0, vr 6 0)]) (st' := [vr 6 0]) (μ' := μ6) (pc' := 40) [(.aload_n 0, 0, 0, 0, 0)] (by decide +kernel) rfl rfl ?_
        refine sCk oI rfl (fun h7 => ?_)
        refine sGr (idx := 9) (ci := 5) (sl := 0) (n := 0) (by decide +kernel) rfl rfl h7 ?_
        refine sBk (lo' := [(0, vr 6 0)]) (st' := [vi 12, vr 7 0]) (μ' := μ6) (pc' := 45) [(.bipush 12, 0, 0, 12, 0)] (by decide +kernel) rfl rfl ?_
        refine sCvI oI rfl (ci := 6) (q := (7, 0)) (avs := [vi 12]) (rest := []) (tX6_takeWord 12 μ6) (by decide) (by decide +kernel) lk_5_93 yv_X6_takeWord rfl (by decide) rfl rfl rfl (Nat.le_of_ble_eq_true rfl) (fun x8 μ9 => ?_)
        refine sIf_eq oI (off := 16) (tgt := 64) (by decide +kernel) (by decide) (fun _ => ?_) (fun _ => ?_)
        · refine sBk (lo' := [(0, vr 6 0)]) (st' := [vi 0]) (μ' := μ9) (pc' := 65) [(.iconst 0, 0, 0, 0, 0)] (by decide +kernel) rfl rfl ?_
          exact sRi (by decide +kernel) (fun _ => Or.inl rfl)
        · refine sBk (lo' := [(0, vr 6 0)]) (st' := [vr 6 0]) (μ' := μ9) (pc' := 52) [(.aload_n 0, 0, 0, 0, 0)] (by decide +kernel) rfl rfl ?_
          refine sCk oI rfl (fun h10 => ?_)
          refine sGr (idx := 9) (ci := 5) (sl := 0) (n := 0) (by decide +kernel) rfl rfl h10 ?_
          refine sBk (lo' := [(0, vr 6 0)]) (st' := [vi 40, vi 1, vr 7 0]) (μ' := μ9) (pc' := 58) [(.iconst 1, 0, 0, 1, 0), (.bipush 40, 0, 0, 40, 0)] (by decide +kernel) rfl rfl ?_
          refine sCvI oI rfl (ci := 6) (q := (7, 0)) (avs := [vi 1, vi 40]) (rest := []) (tX6_takeNumber 1 40 μ9) (by decide) (by decide +kernel) lk_5_59 yv_X6_takeNumber rfl (by decide) rfl rfl rfl (Nat.le_of_ble_eq_true rfl) (fun x11 μ12 => ?_)
          refine sIf_ne oI (off := 5) (tgt := 66) (by decide +kernel) (by decide) (fun _ => ?_) (fun _ => ?_)
          · refine sBk (lo' := [(0, vr 6 0)]) (st' := [vr 6 0]) (μ' := μ12) (pc' := 67) [(.aload_n 0, 0, 0, 0, 0)] (by decide +kernel) rfl rfl ?_
            refine sCk oI rfl (fun h13 => ?_)
            refine sGr (idx := 9) (ci := 5) (sl := 0) (n := 0) (by decide +kernel) rfl rfl h13 ?_
            refine sBk (lo' := [(2, vi 1), (1, vi (rI μ12 7 0 6)), (0, vr 6 0)]) (st' := [vr 6 0]) (μ' := μ12) (pc' := 77) [(.getfield 63, 6, 6, 0, 0), (.istore_n 1, 0, 0, 0, 0), (.iconst 1, 0, 0, 1, 0), (.istore_n 2, 0, 0, 0, 0), (.aload_n 0, 0, 0, 0, 0)] (by decide +kernel) rfl rfl ?_
            refine sCk oI rfl (fun h14 => ?_)
            refine sGr (idx := 9) (ci := 5) (sl := 0) (n := 0) (by decide +kernel) rfl rfl h14 ?_
            refine sBk (lo' := [(2, vi 1), (1, vi (rI μ12 7 0 6)), (0, vr 6 0)]) (st' := [vi 13, vi (rI μ12 7 0 4)]) (μ' := μ12) (pc' := 85) [(.getfield 28, 6, 4, 0, 0), (.bipush 13, 0, 0, 13, 0)] (by decide +kernel) rfl rfl ?_
            refine sIc_ne oI (off := 33) (tgt := 118) (by decide +kernel) (by decide) (fun _ => ?_) (fun _ => ?_)
            · refine sWk (lo' := [(0, vr 6 0), (1, vi (rI μ12 7 0 6)), (2, vi 1)]) [2, 1, 0] rfl ?_
              exact X5_readWinder_J118_ok (rI μ12 7 0 6) 1 μ12
            · refine sBk (lo' := [(2, vi 1), (1, vi (rI μ12 7 0 6)), (0, vr 6 0)]) (st' := [vr 6 0]) (μ' := μ12) (pc' := 89) [(.aload_n 0, 0, 0, 0, 0)] (by decide +kernel) rfl rfl ?_
              refine sCk oI rfl (fun h15 => ?_)
              refine sGr (idx := 9) (ci := 5) (sl := 0) (n := 0) (by decide +kernel) rfl rfl h15 ?_
              refine sCvV oI rfl (ci := 6) (q := (7, 0)) (avs := []) (rest := []) (tX6_advance μ12) (by decide) (by decide +kernel) lk_5_56 yv_X6_advance rfl (by decide) rfl rfl rfl (Nat.le_of_ble_eq_true rfl) (fun μ17 => ?_)
              refine sBk (lo' := [(2, vi 1), (1, vi (rI μ12 7 0 6)), (0, vr 6 0)]) (st' := [vr 6 0]) (μ' := μ17) (pc' := 96) [(.aload_n 0, 0, 0, 0, 0)] (by decide +kernel) rfl rfl ?_
              refine sCk oI rfl (fun h18 => ?_)
              refine sGr (idx := 9) (ci := 5) (sl := 0) (n := 0) (by decide +kernel) rfl rfl h18 ?_
              refine sBk (lo' := [(2, vi 1), (1, vi (rI μ12 7 0 6)), (0, vr 6 0)]) (st' := [vi 99, vi 0, vr 7 0]) (μ' := μ17) (pc' := 102) [(.iconst 0, 0, 0, 0, 0), (.bipush 99, 0, 0, 99, 0)] (by decide +kernel) rfl rfl ?_
              refine sCvI oI rfl (ci := 6) (q := (7, 0)) (avs := [vi 0, vi 99]) (rest := []) (tX6_takeNumber 0 99 μ17) (by decide) (by decide +kernel) lk_5_59 yv_X6_takeNumber rfl (by decide) rfl rfl rfl (Nat.le_of_ble_eq_true rfl) (fun x19 μ20 => ?_)
              refine sIf_ne oI (off := 5) (tgt := 110) (by decide +kernel) (by decide) (fun _ => ?_) (fun _ => ?_)
              · refine sBk (lo' := [(2, vi 1), (1, vi (rI μ12 7 0 6)), (0, vr 6 0)]) (st' := [vr 6 0]) (μ' := μ20) (pc' := 111) [(.aload_n 0, 0, 0, 0, 0)] (by decide +kernel) rfl rfl ?_
                refine sCk oI rfl (fun h21 => ?_)
                refine sGr (idx := 9) (ci := 5) (sl := 0) (n := 0) (by decide +kernel) rfl rfl h21 ?_
                refine sBk (lo' := [(2, vi (rI μ20 7 0 6)), (1, vi (rI μ12 7 0 6)), (0, vr 6 0)]) (st' := []) (μ' := μ20) (pc' := 118) [(.getfield 63, 6, 6, 0, 0), (.istore_n 2, 0, 0, 0, 0)] (by decide +kernel) rfl rfl ?_
                refine sWk (lo' := [(0, vr 6 0), (1, vi (rI μ12 7 0 6)), (2, vi (rI μ20 7 0 6))]) [2, 1, 0] rfl ?_
                exact X5_readWinder_J118_ok (rI μ12 7 0 6) (rI μ20 7 0 6) μ20
              · refine sBk (lo' := [(2, vi 1), (1, vi (rI μ12 7 0 6)), (0, vr 6 0)]) (st' := [vi 0]) (μ' := μ20) (pc' := 109) [(.iconst 0, 0, 0, 0, 0)] (by decide +kernel) rfl rfl ?_
                exact sRi (by decide +kernel) (fun _ => Or.inl rfl)
          · refine sBk (lo' := [(0, vr 6 0)]) (st' := [vi 0]) (μ' := μ12) (pc' := 65) [(.iconst 0, 0, 0, 0, 0)] (by decide +kernel) rfl rfl ?_
            exact sRi (by decide +kernel) (fun _ => Or.inl rfl)
    · refine sBk (lo' := [(0, vr 6 0)]) (st' := [vr 6 0]) (μ' := μ) (pc' := 16) [(.aload_n 0, 0, 0, 0, 0)] (by decide +kernel) rfl rfl ?_
      refine sCk oI rfl (fun h22 => ?_)
      refine sGr (idx := 9) (ci := 5) (sl := 0) (n := 0) (by decide +kernel) rfl rfl h22 ?_
      refine sBk (lo' := [(0, vr 6 0)]) (st' := [vi 6, vr 7 0]) (μ' := μ) (pc' := 21) [(.bipush 6, 0, 0, 6, 0)] (by decide +kernel) rfl rfl ?_
      refine sCvI oI rfl (ci := 6) (q := (7, 0)) (avs := [vi 6]) (rest := []) (tX6_fail 6 μ) (by decide) (by decide +kernel) lk_5_53 yv_X6_fail rfl (by decide) rfl rfl rfl (Nat.le_of_ble_eq_true rfl) (fun x23 μ24 => ?_)
      exact sCk oI rfl (fun h => sRi (by decide +kernel) (fun _ => h))
/-! ClockRiver$RiverReader.readPart -/
def X5_readPart (μ : sM) : Option (Int32 × sM) :=
  if (rR μ 6 0 0) = 1 then
    if (rI μ 7 0 4) = 0 then
      bI (X5_readSetting 60 μ) fun x2 μ3 =>
        if x2 = 0 ∨ x2 = 1 then some (x2, μ3) else none
    else if (rI μ 7 0 4) = 1 then
      bI (X5_readSetting 9 μ) fun x4 μ5 =>
        if x4 = 0 ∨ x4 = 1 then some (x4, μ5) else none
    else if (rI μ 7 0 4) = 2 then
      bI (X5_readSetting 99 μ) fun x6 μ7 =>
        if x6 = 0 ∨ x6 = 1 then some (x6, μ7) else none
    else if (rI μ 7 0 4) = 3 then
      bI (X5_readSetting 16 μ) fun x8 μ9 =>
        if x8 = 0 ∨ x8 = 1 then some (x8, μ9) else none
    else if (rI μ 7 0 4) = 4 then
      bI (X5_readReach μ) fun x10 μ11 =>
        if x10 = 0 ∨ x10 = 1 then some (x10, μ11) else none
    else if (rI μ 7 0 4) = 8 then
      bI (X5_readMill μ) fun x12 μ13 =>
        if x12 = 0 ∨ x12 = 1 then some (x12, μ13) else none
    else if (rI μ 7 0 4) = 11 then
      bI (X5_readWinder μ) fun x14 μ15 =>
        if x14 = 0 ∨ x14 = 1 then some (x14, μ15) else none
    else
      if (rR μ 6 0 0) = 1 then
        bI (X6_failToStand μ) fun x17 μ18 =>
          if x17 = 0 ∨ x17 = 1 then some (x17, μ18) else none
      else none
  else none
theorem tX5_readPart (μ : sM) : sMt yX5_readPart cX5_readPart 1 (some .boolean) 5 [vr 6 0] μ (oI (X5_readPart μ)) := by
  refine sMt_of (own := 5) (bl := true) (by decide +kernel) rfl (Nat.le_of_ble_eq_true rfl) (fun r ρ h => ?_) ?_
  · obtain ⟨q, -, hq⟩ := Option.map_eq_some_iff.mp h
    cases hq
    exact Or.inr ⟨rfl, rfl⟩
  · unfold X5_readPart
    show sOk 5 cX5_readPart 1 5 true 0 [(0, vr 6 0)] [] μ _
    refine sBk (lo' := [(0, vr 6 0)]) (st' := [vr 6 0]) (μ' := μ) (pc' := 1) [(.aload_n 0, 0, 0, 0, 0)] (by decide +kernel) rfl rfl ?_
    refine sCk oI rfl (fun h1 => ?_)
    refine sGr (idx := 9) (ci := 5) (sl := 0) (n := 0) (by decide +kernel) rfl rfl h1 ?_
    refine sBk (lo' := [(0, vr 6 0)]) (st' := [vi (rI μ 7 0 4)]) (μ' := μ) (pc' := 7) [(.getfield 28, 6, 4, 0, 0)] (by decide +kernel) rfl rfl ?_
    refine sTs (ps := [(0, 68), (1, 75), (2, 82), (3, 89), (4, 96), (8, 101), (11, 106)]) (df := 111) (by decide +kernel) ?_
    refine sSc oI (fun _ => ?_) (fun _ => ?_)
    · refine sBk (lo' := [(0, vr 6 0)]) (st' := [vi 60, vr 6 0]) (μ' := μ) (pc' := 71) [(.aload_n 0, 0, 0, 0, 0), (.bipush 60, 0, 0, 60, 0)] (by decide +kernel) rfl rfl ?_
      refine sCvI oI rfl (ci := 5) (q := (6, 0)) (avs := [vi 60]) (rest := []) (tX5_readSetting 60 μ) (by decide) (by decide +kernel) lk_5_37 yv_X5_readSetting rfl (by decide) rfl rfl rfl (Nat.le_of_ble_eq_true rfl) (fun x2 μ3 => ?_)
      exact sCk oI rfl (fun h => sRi (by decide +kernel) (fun _ => h))
    refine sSc oI (fun _ => ?_) (fun _ => ?_)
    · refine sBk (lo' := [(0, vr 6 0)]) (st' := [vi 9, vr 6 0]) (μ' := μ) (pc' := 78) [(.aload_n 0, 0, 0, 0, 0), (.bipush 9, 0, 0, 9, 0)] (by decide +kernel) rfl rfl ?_
      refine sCvI oI rfl (ci := 5) (q := (6, 0)) (avs := [vi 9]) (rest := []) (tX5_readSetting 9 μ) (by decide) (by decide +kernel) lk_5_37 yv_X5_readSetting rfl (by decide) rfl rfl rfl (Nat.le_of_ble_eq_true rfl) (fun x4 μ5 => ?_)
      exact sCk oI rfl (fun h => sRi (by decide +kernel) (fun _ => h))
    refine sSc oI (fun _ => ?_) (fun _ => ?_)
    · refine sBk (lo' := [(0, vr 6 0)]) (st' := [vi 99, vr 6 0]) (μ' := μ) (pc' := 85) [(.aload_n 0, 0, 0, 0, 0), (.bipush 99, 0, 0, 99, 0)] (by decide +kernel) rfl rfl ?_
      refine sCvI oI rfl (ci := 5) (q := (6, 0)) (avs := [vi 99]) (rest := []) (tX5_readSetting 99 μ) (by decide) (by decide +kernel) lk_5_37 yv_X5_readSetting rfl (by decide) rfl rfl rfl (Nat.le_of_ble_eq_true rfl) (fun x6 μ7 => ?_)
      exact sCk oI rfl (fun h => sRi (by decide +kernel) (fun _ => h))
    refine sSc oI (fun _ => ?_) (fun _ => ?_)
    · refine sBk (lo' := [(0, vr 6 0)]) (st' := [vi 16, vr 6 0]) (μ' := μ) (pc' := 92) [(.aload_n 0, 0, 0, 0, 0), (.bipush 16, 0, 0, 16, 0)] (by decide +kernel) rfl rfl ?_
      refine sCvI oI rfl (ci := 5) (q := (6, 0)) (avs := [vi 16]) (rest := []) (tX5_readSetting 16 μ) (by decide) (by decide +kernel) lk_5_37 yv_X5_readSetting rfl (by decide) rfl rfl rfl (Nat.le_of_ble_eq_true rfl) (fun x8 μ9 => ?_)
      exact sCk oI rfl (fun h => sRi (by decide +kernel) (fun _ => h))
    refine sSc oI (fun _ => ?_) (fun _ => ?_)
    · refine sBk (lo' := [(0, vr 6 0)]) (st' := [vr 6 0]) (μ' := μ) (pc' := 97) [(.aload_n 0, 0, 0, 0, 0)] (by decide +kernel) rfl rfl ?_
      refine sCvI oI rfl (ci := 5) (q := (6, 0)) (avs := []) (rest := []) (tX5_readReach μ) (by decide) (by decide +kernel) lk_5_41 yv_X5_readReach rfl (by decide) rfl rfl rfl (Nat.le_of_ble_eq_true rfl) (fun x10 μ11 => ?_)
      exact sCk oI rfl (fun h => sRi (by decide +kernel) (fun _ => h))
    refine sSc oI (fun _ => ?_) (fun _ => ?_)
    · refine sBk (lo' := [(0, vr 6 0)]) (st' := [vr 6 0]) (μ' := μ) (pc' := 102) [(.aload_n 0, 0, 0, 0, 0)] (by decide +kernel) rfl rfl ?_
      refine sCvI oI rfl (ci := 5) (q := (6, 0)) (avs := []) (rest := []) (tX5_readMill μ) (by decide) (by decide +kernel) lk_5_44 yv_X5_readMill rfl (by decide) rfl rfl rfl (Nat.le_of_ble_eq_true rfl) (fun x12 μ13 => ?_)
      exact sCk oI rfl (fun h => sRi (by decide +kernel) (fun _ => h))
    refine sSc oI (fun _ => ?_) (fun _ => ?_)
    · refine sBk (lo' := [(0, vr 6 0)]) (st' := [vr 6 0]) (μ' := μ) (pc' := 107) [(.aload_n 0, 0, 0, 0, 0)] (by decide +kernel) rfl rfl ?_
      refine sCvI oI rfl (ci := 5) (q := (6, 0)) (avs := []) (rest := []) (tX5_readWinder μ) (by decide) (by decide +kernel) lk_5_47 yv_X5_readWinder rfl (by decide) rfl rfl rfl (Nat.le_of_ble_eq_true rfl) (fun x14 μ15 => ?_)
      exact sCk oI rfl (fun h => sRi (by decide +kernel) (fun _ => h))
    refine sSd ?_
    refine sBk (lo' := [(0, vr 6 0)]) (st' := [vr 6 0]) (μ' := μ) (pc' := 112) [(.aload_n 0, 0, 0, 0, 0)] (by decide +kernel) rfl rfl ?_
    refine sCk oI rfl (fun h16 => ?_)
    refine sGr (idx := 9) (ci := 5) (sl := 0) (n := 0) (by decide +kernel) rfl rfl h16 ?_
    refine sCvI oI rfl (ci := 6) (q := (7, 0)) (avs := []) (rest := []) (tX6_failToStand μ) (by decide) (by decide +kernel) lk_5_50 yv_X6_failToStand rfl (by decide) rfl rfl rfl (Nat.le_of_ble_eq_true rfl) (fun x17 μ18 => ?_)
    exact sCk oI rfl (fun h => sRi (by decide +kernel) (fun _ => h))
/-! ClockRiver$RiverReader.readInto -/
def X5_readInto_L24 : Nat → Int32 → sM → Option (Int32 × sM)
  | 0, _, _ => none
  | n + 1, v3, μ =>
    if 900 ≤ v3 then
      some (1, μ)
    else
      if (rR μ 6 0 0) = 1 then
        if (rI μ 7 0 4) = 32 then
          some (1, μ)
        else
          bI (X5_readPart μ) fun x2 μ3 =>
            if x2 = 0 then
              some (0, μ3)
            else
              X5_readInto_L24 n (v3 + 1) μ3
      else none
theorem X5_readInto_L24_ok : ∀ (n : Nat) (v3 : Int32) (μ : sM), sOk 5 cX5_readInto 4 6 true 24 [(0, vr 6 0), (3, vi v3)] [] μ (oI (X5_readInto_L24 n v3 μ)) := by
  intro n
  induction n with
  | zero =>
    intros
    exact sNo
  | succ n ih =>
    intro v3 μ
    unfold X5_readInto_L24
    refine sBk (lo' := [(0, vr 6 0), (3, vi v3)]) (st' := [vi 900, vi v3]) (μ' := μ) (pc' := 28) [(.iload_n 3, 0, 0, 0, 0), (.sipush 900, 0, 0, 900, 0)] (by decide +kernel) rfl rfl ?_
    refine sIc_ge oI (off := 30) (tgt := 58) (by decide +kernel) (by decide) (fun _ => ?_) (fun _ => ?_)
    · refine sBk (lo' := [(0, vr 6 0), (3, vi v3)]) (st' := [vi 1]) (μ' := μ) (pc' := 59) [(.iconst 1, 0, 0, 1, 0)] (by decide +kernel) rfl rfl ?_
      exact sRi (by decide +kernel) (fun _ => Or.inr rfl)
    · refine sBk (lo' := [(0, vr 6 0), (3, vi v3)]) (st' := [vr 6 0]) (μ' := μ) (pc' := 32) [(.aload_n 0, 0, 0, 0, 0)] (by decide +kernel) rfl rfl ?_
      refine sCk oI rfl (fun h1 => ?_)
      refine sGr (idx := 9) (ci := 5) (sl := 0) (n := 0) (by decide +kernel) rfl rfl h1 ?_
      refine sBk (lo' := [(0, vr 6 0), (3, vi v3)]) (st' := [vi 32, vi (rI μ 7 0 4)]) (μ' := μ) (pc' := 40) [(.getfield 28, 6, 4, 0, 0), (.bipush 32, 0, 0, 32, 0)] (by decide +kernel) rfl rfl ?_
      refine sIc_eq oI (off := 18) (tgt := 58) (by decide +kernel) (by decide) (fun _ => ?_) (fun _ => ?_)
      · refine sBk (lo' := [(0, vr 6 0), (3, vi v3)]) (st' := [vi 1]) (μ' := μ) (pc' := 59) [(.iconst 1, 0, 0, 1, 0)] (by decide +kernel) rfl rfl ?_
        exact sRi (by decide +kernel) (fun _ => Or.inr rfl)
      · refine sBk (lo' := [(0, vr 6 0), (3, vi v3)]) (st' := [vr 6 0]) (μ' := μ) (pc' := 44) [(.aload_n 0, 0, 0, 0, 0)] (by decide +kernel) rfl rfl ?_
        refine sCvI oI rfl (ci := 5) (q := (6, 0)) (avs := []) (rest := []) (tX5_readPart μ) (by decide) (by decide +kernel) lk_5_33 yv_X5_readPart rfl (by decide) rfl rfl rfl (Nat.le_of_ble_eq_true rfl) (fun x2 μ3 => ?_)
        refine sIf_ne oI (off := 5) (tgt := 52) (by decide +kernel) (by decide) (fun _ => ?_) (fun _ => ?_)
        · refine sBk (lo' := [(3, vi (v3 + 1)), (0, vr 6 0)]) (st' := []) (μ' := μ3) (pc' := 55) [(.iinc 3 1, 0, 0, 1, 0)] (by decide +kernel) rfl rfl ?_
          refine sGt (off := (-31)) (tgt := 24) (by decide +kernel) (by decide) ?_
          refine sWk (lo' := [(0, vr 6 0), (3, vi (v3 + 1))]) [1, 0] rfl ?_
          exact ih (v3 + 1) μ3
        · refine sBk (lo' := [(0, vr 6 0), (3, vi v3)]) (st' := [vi 0]) (μ' := μ3) (pc' := 51) [(.iconst 0, 0, 0, 0, 0)] (by decide +kernel) rfl rfl ?_
          exact sRi (by decide +kernel) (fun _ => Or.inl rfl)
def X5_readInto (a2 : Nat) (μ : sM) : Option (Int32 × sM) :=
  if (a2 + 1) = 5 then
    bV (X4_clear 4 (wI (wR (wR μ 6 0 0 (0 + 1)) 6 0 1 (a2 + 1)) 6 0 3 0)) fun μ3 =>
      X5_readInto_L24 fuN 0 μ3
  else none
theorem tX5_readInto (a2 : Nat) (μ : sM) : sMt yX5_readInto cX5_readInto 4 (some .boolean) 6 [vr 6 0, vr 7 0, vr 5 a2] μ (oI (X5_readInto a2 μ)) := by
  refine sMt_of (own := 5) (bl := true) (by decide +kernel) rfl (Nat.le_of_ble_eq_true rfl) (fun r ρ h => ?_) ?_
  · obtain ⟨q, -, hq⟩ := Option.map_eq_some_iff.mp h
    cases hq
    exact Or.inr ⟨rfl, rfl⟩
  · unfold X5_readInto
    show sOk 5 cX5_readInto 4 6 true 0 [(0, vr 6 0), (1, vr 7 0), (2, vr 5 a2)] [] μ _
    refine sBk (lo' := [(0, vr 6 0), (1, vr 7 0), (2, vr 5 a2)]) (st' := [vr 6 0]) (μ' := wI (wR (wR μ 6 0 0 (0 + 1)) 6 0 1 (a2 + 1)) 6 0 3 0) (pc' := 16) [(.aload_n 0, 0, 0, 0, 0), (.aload_n 1, 0, 0, 0, 0), (.putfield 9, 5, 0, 0, 0), (.aload_n 0, 0, 0, 0, 0), (.aload_n 2, 0, 0, 0, 0), (.putfield 15, 5, 1, 0, 0), (.aload_n 0, 0, 0, 0, 0), (.iconst 0, 0, 0, 0, 0), (.putfield 19, 5, 3, 0, 0), (.aload_n 0, 0, 0, 0, 0)] (by decide +kernel) rfl rfl ?_
    refine sCk oI rfl (fun h1 => ?_)
    refine sGr (idx := 15) (ci := 5) (sl := 1) (n := 4) (by decide +kernel) rfl rfl h1 ?_
    refine sCvV oI rfl (ci := 4) (q := (5, 4)) (avs := []) (rest := []) (tX4_clear 4 (wI (wR (wR μ 6 0 0 (0 + 1)) 6 0 1 (a2 + 1)) 6 0 3 0)) (by decide) (by decide +kernel) lk_5_23 yv_X4_clear rfl (by decide) rfl rfl rfl (Nat.le_of_ble_eq_true rfl) (fun μ3 => ?_)
    refine sBk (lo' := [(3, vi 0), (0, vr 6 0), (1, vr 7 0), (2, vr 5 a2)]) (st' := []) (μ' := μ3) (pc' := 24) [(.iconst 0, 0, 0, 0, 0), (.istore_n 3, 0, 0, 0, 0)] (by decide +kernel) rfl rfl ?_
    refine sWk (lo' := [(0, vr 6 0), (3, vi 0)]) [1, 0] rfl ?_
    exact X5_readInto_L24_ok fuN 0 μ3
