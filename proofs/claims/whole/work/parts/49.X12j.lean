theorem lk_12_539 : Cond.methodLink (kRn 12) 539 yX12_runsWeeks ∈ sT := sT_in (n := 2182) (by decide +kernel) rfl
theorem yv_X12_runsWeeks : yV yX12_runsWeeks cX12_runsWeeks 2 none 1 := ⟨⟨sT_in (n := 2185) (by decide +kernel) rfl, sT_in (n := 149) (by decide +kernel) rfl, by decide +kernel, by decide⟩, sT_in (n := 2184) (by decide +kernel) rfl, sT_in (n := 127) (by decide +kernel) rfl⟩
/-! ClockRiverModel.live -/
def X12_live (a1 : Int32) (μ : sM) : Option (Int32 × sM) :=
  bI (X12_isIn (Int32.toInt64 a1) 0 9999 (wI (wI μ 13 0 1 0) 13 0 0 0)) fun x1 μ2 =>
    if x1 = 0 then
      bI (X12_refuse 5 μ2) fun x7 μ8 =>
        some (x7, μ8)
    else
      if (rI μ2 61 0 76) = 0 then
        bI (X12_refuse 8 μ2) fun x5 μ6 =>
          some (x5, μ6)
      else
        bV (X12_runsWeeks a1 μ2) fun μ4 =>
          some ((rI μ4 13 0 43), wI (wI (wI (wI (wI (wI μ4 71 0 0 (rI μ4 13 0 44)) 71 0 1 (rI μ4 13 0 45)) 71 0 2 (rI μ4 13 0 46)) 71 0 3 (rI μ4 13 0 47)) 71 0 4 (rI μ4 13 0 48)) 13 0 40 1)
theorem tX12_live (a1 : Int32) (μ : sM) : sMt yX12_live cX12_live 2 (some .int) 20 [vr 13 0, vi a1] μ (oI (X12_live a1 μ)) := by
  refine sMt_of (own := 12) (bl := false) (by decide +kernel) rfl (Nat.le_of_ble_eq_true rfl) (fun r ρ h => ?_) ?_
  · obtain ⟨q, -, hq⟩ := Option.map_eq_some_iff.mp h
    cases hq
    exact Or.inl rfl
  · unfold X12_live
    show sOk 12 cX12_live 2 20 false 0 [(0, vr 13 0), (1, vi a1)] [] μ _
    refine sBk (lo' := [(0, vr 13 0), (1, vi a1)]) (st' := [vl 9999, vl 0, vl (Int32.toInt64 a1)]) (μ' := wI (wI μ 13 0 1 0) 13 0 0 0) (pc' := 16) [(.aload_n 0, 0, 0, 0, 0), (.iconst 0, 0, 0, 0, 0), (.putfield 72, 12, 1, 0, 0), (.aload_n 0, 0, 0, 0, 0), (.iconst 0, 0, 0, 0, 0), (.putfield 75, 12, 0, 0, 0), (.iload_n 1, 0, 0, 0, 0), (.i2l, 0, 0, 0, 0), (.lconst 0, 0, 0, 0, 0), (.ldc2_w 537, 0, 0, 0, 9999)] (by decide +kernel) rfl rfl ?_
    refine sCsI oI rfl (avs := [vl (Int32.toInt64 a1), vl 0, vl 9999]) (rest := []) (tX12_isIn (Int32.toInt64 a1) 0 9999 (wI (wI μ 13 0 1 0) 13 0 0 0)) (by decide) (by decide +kernel) lk_12_107 ys_X12_isIn rfl rfl (Nat.le_of_ble_eq_true rfl) (fun x1 μ2 => ?_)
    refine sIf_ne oI (off := 9) (tgt := 28) (by decide +kernel) (by decide) (fun _ => ?_) (fun _ => ?_)
    · refine sBk (lo' := [(0, vr 13 0), (1, vi a1)]) (st' := [vi 76, vr 61 0]) (μ' := μ2) (pc' := 34) [(.aload_n 0, 0, 0, 0, 0), (.getfield 35, 12, 20, 0, 0), (.bipush 76, 0, 0, 76, 0)] (by decide +kernel) rfl rfl ?_
      refine sC_ial (n := 1740) (j := 76) (by decide +kernel) (by decide +kernel) rfl rfl (by decide +kernel) ?_
      refine sIf_ne oI (off := 10) (tgt := 45) (by decide +kernel) (by decide) (fun _ => ?_) (fun _ => ?_)
      · refine sBk (lo' := [(0, vr 13 0), (1, vi a1)]) (st' := [vi a1, vr 13 0]) (μ' := μ2) (pc' := 47) [(.aload_n 0, 0, 0, 0, 0), (.iload_n 1, 0, 0, 0, 0)] (by decide +kernel) rfl rfl ?_
        refine sCvV oI rfl (ci := 12) (q := (13, 0)) (avs := [vi a1]) (rest := []) (tX12_runsWeeks a1 μ2) (by decide) (by decide +kernel) lk_12_539 yv_X12_runsWeeks rfl (by decide) rfl rfl rfl (Nat.le_of_ble_eq_true rfl) (fun μ4 => ?_)
        refine sBk (lo' := [(0, vr 13 0), (1, vi a1)]) (st' := [vi (rI μ4 13 0 44), vi 0, vr 71 0]) (μ' := μ4) (pc' := 59) [(.aload_n 0, 0, 0, 0, 0), (.getfield 65, 12, 39, 0, 0), (.iconst 0, 0, 0, 0, 0), (.aload_n 0, 0, 0, 0, 0), (.getfield 522, 12, 44, 0, 0)] (by decide +kernel) rfl rfl ?_
        refine sC_ias (n := 5) (j := 0) (by decide +kernel) (by decide +kernel) rfl rfl (by decide +kernel) ?_
        refine sBk (lo' := [(0, vr 13 0), (1, vi a1)]) (st' := [vi (rI μ4 13 0 45), vi 1, vr 71 0]) (μ' := wI μ4 71 0 0 (rI μ4 13 0 44)) (pc' := 69) [(.aload_n 0, 0, 0, 0, 0), (.getfield 65, 12, 39, 0, 0), (.iconst 1, 0, 0, 1, 0), (.aload_n 0, 0, 0, 0, 0), (.getfield 494, 12, 45, 0, 0)] (by decide +kernel) rfl rfl ?_
        refine sC_ias (n := 5) (j := 1) (by decide +kernel) (by decide +kernel) rfl rfl (by decide +kernel) ?_
        refine sBk (lo' := [(0, vr 13 0), (1, vi a1)]) (st' := [vi (rI μ4 13 0 46), vi 2, vr 71 0]) (μ' := wI (wI μ4 71 0 0 (rI μ4 13 0 44)) 71 0 1 (rI μ4 13 0 45)) (pc' := 79) [(.aload_n 0, 0, 0, 0, 0), (.getfield 65, 12, 39, 0, 0), (.iconst 2, 0, 0, 2, 0), (.aload_n 0, 0, 0, 0, 0), (.getfield 491, 12, 46, 0, 0)] (by decide +kernel) rfl rfl ?_
        refine sC_ias (n := 5) (j := 2) (by decide +kernel) (by decide +kernel) rfl rfl (by decide +kernel) ?_
        refine sBk (lo' := [(0, vr 13 0), (1, vi a1)]) (st' := [vi (rI μ4 13 0 47), vi 3, vr 71 0]) (μ' := wI (wI (wI μ4 71 0 0 (rI μ4 13 0 44)) 71 0 1 (rI μ4 13 0 45)) 71 0 2 (rI μ4 13 0 46)) (pc' := 89) [(.aload_n 0, 0, 0, 0, 0), (.getfield 65, 12, 39, 0, 0), (.iconst 3, 0, 0, 3, 0), (.aload_n 0, 0, 0, 0, 0), (.getfield 497, 12, 47, 0, 0)] (by decide +kernel) rfl rfl ?_
        refine sC_ias (n := 5) (j := 3) (by decide +kernel) (by decide +kernel) rfl rfl (by decide +kernel) ?_
        refine sBk (lo' := [(0, vr 13 0), (1, vi a1)]) (st' := [vi (rI μ4 13 0 48), vi 4, vr 71 0]) (μ' := wI (wI (wI (wI μ4 71 0 0 (rI μ4 13 0 44)) 71 0 1 (rI μ4 13 0 45)) 71 0 2 (rI μ4 13 0 46)) 71 0 3 (rI μ4 13 0 47)) (pc' := 99) [(.aload_n 0, 0, 0, 0, 0), (.getfield 65, 12, 39, 0, 0), (.iconst 4, 0, 0, 4, 0), (.aload_n 0, 0, 0, 0, 0), (.getfield 519, 12, 48, 0, 0)] (by decide +kernel) rfl rfl ?_
        refine sC_ias (n := 5) (j := 4) (by decide +kernel) (by decide +kernel) rfl rfl (by decide +kernel) ?_
        refine sBk (lo' := [(0, vr 13 0), (1, vi a1)]) (st' := [vi (rI μ4 13 0 43)]) (μ' := wI (wI (wI (wI (wI (wI μ4 71 0 0 (rI μ4 13 0 44)) 71 0 1 (rI μ4 13 0 45)) 71 0 2 (rI μ4 13 0 46)) 71 0 3 (rI μ4 13 0 47)) 71 0 4 (rI μ4 13 0 48)) 13 0 40 1) (pc' := 109) [(.aload_n 0, 0, 0, 0, 0), (.iconst 1, 0, 0, 1, 0), (.putfield 542, 12, 40, 0, 0), (.aload_n 0, 0, 0, 0, 0), (.getfield 512, 12, 43, 0, 0)] (by decide +kernel) rfl rfl ?_
        exact sRi (by decide +kernel) (fun h => by cases h)
      · refine sBk (lo' := [(0, vr 13 0), (1, vi a1)]) (st' := [vi 8, vr 13 0]) (μ' := μ2) (pc' := 41) [(.aload_n 0, 0, 0, 0, 0), (.bipush 8, 0, 0, 8, 0)] (by decide +kernel) rfl rfl ?_
        refine sCvI oI rfl (ci := 12) (q := (13, 0)) (avs := [vi 8]) (rest := []) (tX12_refuse 8 μ2) (by decide) (by decide +kernel) lk_12_325 yv_X12_refuse rfl (by decide) rfl rfl rfl (Nat.le_of_ble_eq_true rfl) (fun x5 μ6 => ?_)
        exact sRi (by decide +kernel) (fun h => by cases h)
    · refine sBk (lo' := [(0, vr 13 0), (1, vi a1)]) (st' := [vi 5, vr 13 0]) (μ' := μ2) (pc' := 24) [(.aload_n 0, 0, 0, 0, 0), (.iconst 5, 0, 0, 5, 0)] (by decide +kernel) rfl rfl ?_
      refine sCvI oI rfl (ci := 12) (q := (13, 0)) (avs := [vi 5]) (rest := []) (tX12_refuse 5 μ2) (by decide) (by decide +kernel) lk_12_325 yv_X12_refuse rfl (by decide) rfl rfl rfl (Nat.le_of_ble_eq_true rfl) (fun x7 μ8 => ?_)
      exact sRi (by decide +kernel) (fun h => by cases h)
/-! ClockRiverModel.lived -/
def X12_lived (a1 : Int32) (μ : sM) : Option (Int32 × sM) :=
  bI (X12_isIn (Int32.toInt64 a1) 0 4 (wI (wI μ 13 0 1 0) 13 0 0 0)) fun x1 μ2 =>
    if x1 = 0 then
      bI (X12_refuse 5 μ2) fun x5 μ6 =>
        some (x5, μ6)
    else
      if (rI μ2 13 0 40) = 0 then
        bI (X12_refuse 8 μ2) fun x3 μ4 =>
          some (x3, μ4)
      else
        if inb a1 5 = true then
          some ((rI μ2 71 0 (ix a1)), μ2)
        else none
theorem tX12_lived (a1 : Int32) (μ : sM) : sMt yX12_lived cX12_lived 2 (some .int) 2 [vr 13 0, vi a1] μ (oI (X12_lived a1 μ)) := by
  refine sMt_of (own := 12) (bl := false) (by decide +kernel) rfl (Nat.le_of_ble_eq_true rfl) (fun r ρ h => ?_) ?_
  · obtain ⟨q, -, hq⟩ := Option.map_eq_some_iff.mp h
    cases hq
    exact Or.inl rfl
  · unfold X12_lived
    show sOk 12 cX12_lived 2 2 false 0 [(0, vr 13 0), (1, vi a1)] [] μ _
    refine sBk (lo' := [(0, vr 13 0), (1, vi a1)]) (st' := [vl 4, vl 0, vl (Int32.toInt64 a1)]) (μ' := wI (wI μ 13 0 1 0) 13 0 0 0) (pc' := 16) [(.aload_n 0, 0, 0, 0, 0), (.iconst 0, 0, 0, 0, 0), (.putfield 72, 12, 1, 0, 0), (.aload_n 0, 0, 0, 0, 0), (.iconst 0, 0, 0, 0, 0), (.putfield 75, 12, 0, 0, 0), (.iload_n 1, 0, 0, 0, 0), (.i2l, 0, 0, 0, 0), (.lconst 0, 0, 0, 0, 0), (.ldc2_w 342, 0, 0, 0, 4)] (by decide +kernel) rfl rfl ?_
    refine sCsI oI rfl (avs := [vl (Int32.toInt64 a1), vl 0, vl 4]) (rest := []) (tX12_isIn (Int32.toInt64 a1) 0 4 (wI (wI μ 13 0 1 0) 13 0 0 0)) (by decide) (by decide +kernel) lk_12_107 ys_X12_isIn rfl rfl (Nat.le_of_ble_eq_true rfl) (fun x1 μ2 => ?_)
    refine sIf_ne oI (off := 9) (tgt := 28) (by decide +kernel) (by decide) (fun _ => ?_) (fun _ => ?_)
    · refine sBk (lo' := [(0, vr 13 0), (1, vi a1)]) (st' := [vi (rI μ2 13 0 40)]) (μ' := μ2) (pc' := 32) [(.aload_n 0, 0, 0, 0, 0), (.getfield 542, 12, 40, 0, 0)] (by decide +kernel) rfl rfl ?_
      refine sIf_eq oI (off := 12) (tgt := 44) (by decide +kernel) (by decide) (fun _ => ?_) (fun _ => ?_)
      · refine sBk (lo' := [(0, vr 13 0), (1, vi a1)]) (st' := [vi 8, vr 13 0]) (μ' := μ2) (pc' := 47) [(.aload_n 0, 0, 0, 0, 0), (.bipush 8, 0, 0, 8, 0)] (by decide +kernel) rfl rfl ?_
        refine sCvI oI rfl (ci := 12) (q := (13, 0)) (avs := [vi 8]) (rest := []) (tX12_refuse 8 μ2) (by decide) (by decide +kernel) lk_12_325 yv_X12_refuse rfl (by decide) rfl rfl rfl (Nat.le_of_ble_eq_true rfl) (fun x3 μ4 => ?_)
        exact sRi (by decide +kernel) (fun h => by cases h)
      · refine sBk (lo' := [(0, vr 13 0), (1, vi a1)]) (st' := [vi a1, vr 71 0]) (μ' := μ2) (pc' := 40) [(.aload_n 0, 0, 0, 0, 0), (.getfield 65, 12, 39, 0, 0), (.iload_n 1, 0, 0, 0, 0)] (by decide +kernel) rfl rfl ?_
        refine sS_ial oI rfl (n := 5) (j := (ix a1)) (by decide +kernel) rfl rfl rfl (fun _ => ?_)
        refine sGt (off := 9) (tgt := 50) (by decide +kernel) (by decide) ?_
        exact sRi (by decide +kernel) (fun h => by cases h)
    · refine sBk (lo' := [(0, vr 13 0), (1, vi a1)]) (st' := [vi 5, vr 13 0]) (μ' := μ2) (pc' := 24) [(.aload_n 0, 0, 0, 0, 0), (.iconst 5, 0, 0, 5, 0)] (by decide +kernel) rfl rfl ?_
      refine sCvI oI rfl (ci := 12) (q := (13, 0)) (avs := [vi 5]) (rest := []) (tX12_refuse 5 μ2) (by decide) (by decide +kernel) lk_12_325 yv_X12_refuse rfl (by decide) rfl rfl rfl (Nat.le_of_ble_eq_true rfl) (fun x5 μ6 => ?_)
      exact sRi (by decide +kernel) (fun h => by cases h)
/-! ClockRiverModel.mean -/
def X12_mean_J37 (μ : sM) : Option (Int32 × sM) :=
  bI (X12_no 5 μ) fun x1 μ2 =>
    if x1 = 0 ∨ x1 = 1 then some (x1, μ2) else none
theorem X12_mean_J37_ok (μ : sM) : sOk 12 cX12_mean 7 20 true 37 [(0, vr 13 0)] [] μ (oI (X12_mean_J37 μ)) := by
  unfold X12_mean_J37
  refine sBk (lo' := [(0, vr 13 0)]) (st' := [vi 5, vr 13 0]) (μ' := μ) (pc' := 39) [(.aload_n 0, 0, 0, 0, 0), (.iconst 5, 0, 0, 5, 0)] (by decide +kernel) rfl rfl ?_
  refine sCvI oI rfl (ci := 12) (q := (13, 0)) (avs := [vi 5]) (rest := []) (tX12_no 5 μ) (by decide) (by decide +kernel) lk_12_87 yv_X12_no rfl (by decide) rfl rfl rfl (Nat.le_of_ble_eq_true rfl) (fun x1 μ2 => ?_)
  exact sCk oI rfl (fun h => sRi (by decide +kernel) (fun _ => h))
def X12_mean_L116 (k91 : Int32 → Int32 → Int64 → Int32 → sM → Option (Int32 × sM)) : Nat → Int32 → Int32 → Int64 → Int32 → Int32 → sM → Option (Int32 × sM)
  | 0, _, _, _, _, _, _ => none
  | n + 1, v1, v2, v3, v5, v6, μ =>
    if 76 ≤ v6 then
      k91 v1 v2 v3 (v5 + 1) μ
    else
      if inb v6 76 = true then
        if inb v6 1740 = true then
          X12_mean_L116 k91 n v1 v2 v3 v5 (v6 + 1) (wI μ 61 0 (ix v6) (rI μ 63 0 (ix v6)))
        else none
      else none
theorem X12_mean_L116_ok {k91 : Int32 → Int32 → Int64 → Int32 → sM → Option (Int32 × sM)} (hk91 : ∀ (v1 : Int32) (v2 : Int32) (v3 : Int64) (v5 : Int32) (μ : sM), sOk 12 cX12_mean 7 20 true 91 [(0, vr 13 0), (1, vi v1), (2, vi v2), (3, vl v3), (5, vi v5)] [] μ (oI (k91 v1 v2 v3 v5 μ))) : ∀ (n : Nat) (v1 : Int32) (v2 : Int32) (v3 : Int64) (v5 : Int32) (v6 : Int32) (μ : sM), sOk 12 cX12_mean 7 20 true 116 [(0, vr 13 0), (1, vi v1), (2, vi v2), (3, vl v3), (5, vi v5), (6, vi v6)] [] μ (oI (X12_mean_L116 k91 n v1 v2 v3 v5 v6 μ)) := by
  intro n
  induction n with
  | zero =>
    intros
    exact sNo
  | succ n ih =>
    intro v1 v2 v3 v5 v6 μ
    unfold X12_mean_L116
    refine sBk (lo' := [(0, vr 13 0), (1, vi v1), (2, vi v2), (3, vl v3), (5, vi v5), (6, vi v6)]) (st' := [vi 76, vi v6]) (μ' := μ) (pc' := 120) [(.iload 6, 0, 0, 0, 0), (.bipush 76, 0, 0, 76, 0)] (by decide +kernel) rfl rfl ?_
    refine sIc_ge oI (off := 23) (tgt := 143) (by decide +kernel) (by decide) (fun _ => ?_) (fun _ => ?_)
    · refine sBk (lo' := [(5, vi (v5 + 1)), (0, vr 13 0), (1, vi v1), (2, vi v2), (3, vl v3), (6, vi v6)]) (st' := []) (μ' := μ) (pc' := 146) [(.iinc 5 1, 0, 0, 1, 0)] (by decide +kernel) rfl rfl ?_
      refine sGt (off := (-55)) (tgt := 91) (by decide +kernel) (by decide) ?_
      refine sWk (lo' := [(0, vr 13 0), (1, vi v1), (2, vi v2), (3, vl v3), (5, vi (v5 + 1))]) [1, 2, 3, 4, 0] rfl ?_
      exact hk91 v1 v2 v3 (v5 + 1) μ
    · refine sBk (lo' := [(0, vr 13 0), (1, vi v1), (2, vi v2), (3, vl v3), (5, vi v5), (6, vi v6)]) (st' := [vi v6, vr 63 0, vi v6, vr 61 0]) (μ' := μ) (pc' := 135) [(.aload_n 0, 0, 0, 0, 0), (.getfield 35, 12, 20, 0, 0), (.iload 6, 0, 0, 0, 0), (.aload_n 0, 0, 0, 0, 0), (.getfield 41, 12, 22, 0, 0), (.iload 6, 0, 0, 0, 0)] (by decide +kernel) rfl rfl ?_
      refine sS_ial oI rfl (n := 76) (j := (ix v6)) (by decide +kernel) rfl rfl rfl (fun _ => ?_)
      refine sS_ias oI rfl (n := 1740) (j := (ix v6)) (by decide +kernel) rfl rfl rfl (fun _ => ?_)
      refine sBk (lo' := [(6, vi (v6 + 1)), (0, vr 13 0), (1, vi v1), (2, vi v2), (3, vl v3), (5, vi v5)]) (st' := []) (μ' := wI μ 61 0 (ix v6) (rI μ 63 0 (ix v6))) (pc' := 140) [(.iinc 6 1, 0, 0, 1, 0)] (by decide +kernel) rfl rfl ?_
      refine sGt (off := (-24)) (tgt := 116) (by decide +kernel) (by decide) ?_
      refine sWk (lo' := [(0, vr 13 0), (1, vi v1), (2, vi v2), (3, vl v3), (5, vi v5), (6, vi (v6 + 1))]) [1, 2, 3, 4, 5, 0] rfl ?_
      exact ih v1 v2 v3 v5 (v6 + 1) (wI μ 61 0 (ix v6) (rI μ 63 0 (ix v6)))
def X12_mean_L91 : Nat → Int32 → Int32 → Int64 → Int32 → sM → Option (Int32 × sM)
  | 0, _, _, _, _, _ => none
  | n + 1, v1, v2, v3, v5, μ =>
    if v2 ≤ v5 then
      bI (X12_fraction v3 (Int32.toInt64 v2) μ) fun x1 μ2 =>
        if x1 = 0 ∨ x1 = 1 then some (x1, μ2) else none
    else
      bV (X12_runsWeeks (v1 + v5) μ) fun μ4 =>
        bI (X12_allGround μ4) fun x5 μ6 =>
          X12_mean_L116 (X12_mean_L91 n) fuN v1 v2 (v3 + (Int32.toInt64 x5)) v5 0 μ6
theorem X12_mean_L91_ok : ∀ (n : Nat) (v1 : Int32) (v2 : Int32) (v3 : Int64) (v5 : Int32) (μ : sM), sOk 12 cX12_mean 7 20 true 91 [(0, vr 13 0), (1, vi v1), (2, vi v2), (3, vl v3), (5, vi v5)] [] μ (oI (X12_mean_L91 n v1 v2 v3 v5 μ)) := by
  intro n
  induction n with
  | zero =>
    intros
    exact sNo
  | succ n ih =>
    intro v1 v2 v3 v5 μ
    unfold X12_mean_L91
    refine sBk (lo' := [(0, vr 13 0), (1, vi v1), (2, vi v2), (3, vl v3), (5, vi v5)]) (st' := [vi v2, vi v5]) (μ' := μ) (pc' := 94) [(.iload 5, 0, 0, 0, 0), (.iload_n 2, 0, 0, 0, 0)] (by decide +kernel) rfl rfl ?_
    refine sIc_ge oI (off := 55) (tgt := 149) (by decide +kernel) (by decide) (fun _ => ?_) (fun _ => ?_)
    · refine sBk (lo' := [(0, vr 13 0), (1, vi v1), (2, vi v2), (3, vl v3), (5, vi v5)]) (st' := [vl (Int32.toInt64 v2), vl v3, vr 13 0]) (μ' := μ) (pc' := 153) [(.aload_n 0, 0, 0, 0, 0), (.lload_n 3, 0, 0, 0, 0), (.iload_n 2, 0, 0, 0, 0), (.i2l, 0, 0, 0, 0)] (by decide +kernel) rfl rfl ?_
      refine sCvI oI rfl (ci := 12) (q := (13, 0)) (avs := [vl v3, vl (Int32.toInt64 v2)]) (rest := []) (tX12_fraction v3 (Int32.toInt64 v2) μ) (by decide) (by decide +kernel) lk_12_483 yv_X12_fraction rfl (by decide) rfl rfl rfl (Nat.le_of_ble_eq_true rfl) (fun x1 μ2 => ?_)
      exact sCk oI rfl (fun h => sRi (by decide +kernel) (fun _ => h))
    · refine sBk (lo' := [(0, vr 13 0), (1, vi v1), (2, vi v2), (3, vl v3), (5, vi v5)]) (st' := [vi (v1 + v5), vr 13 0]) (μ' := μ) (pc' := 102) [(.aload_n 0, 0, 0, 0, 0), (.iload_n 1, 0, 0, 0, 0), (.iload 5, 0, 0, 0, 0), (.iadd, 0, 0, 0, 0)] (by decide +kernel) rfl rfl ?_
      refine sCvV oI rfl (ci := 12) (q := (13, 0)) (avs := [vi (v1 + v5)]) (rest := []) (tX12_runsWeeks (v1 + v5) μ) (by decide) (by decide +kernel) lk_12_539 yv_X12_runsWeeks rfl (by decide) rfl rfl rfl (Nat.le_of_ble_eq_true rfl) (fun μ4 => ?_)
      refine sBk (lo' := [(0, vr 13 0), (1, vi v1), (2, vi v2), (3, vl v3), (5, vi v5)]) (st' := [vr 13 0, vl v3]) (μ' := μ4) (pc' := 107) [(.lload_n 3, 0, 0, 0, 0), (.aload_n 0, 0, 0, 0, 0)] (by decide +kernel) rfl rfl ?_
      refine sCvI oI rfl (ci := 12) (q := (13, 0)) (avs := []) (rest := [vl v3]) (tX12_allGround μ4) (by decide) (by decide +kernel) lk_12_331 yv_X12_allGround rfl (by decide) rfl rfl rfl (Nat.le_of_ble_eq_true rfl) (fun x5 μ6 => ?_)
      refine sBk (lo' := [(6, vi 0), (3, vl (v3 + (Int32.toInt64 x5))), (0, vr 13 0), (1, vi v1), (2, vi v2), (5, vi v5)]) (st' := []) (μ' := μ6) (pc' := 116) [(.i2l, 0, 0, 0, 0), (.ladd, 0, 0, 0, 0), (.lstore_n 3, 0, 0, 0, 0), (.iconst 0, 0, 0, 0, 0), (.istore 6, 0, 0, 0, 0)] (by decide +kernel) rfl rfl ?_
      refine sWk (lo' := [(0, vr 13 0), (1, vi v1), (2, vi v2), (3, vl (v3 + (Int32.toInt64 x5))), (5, vi v5), (6, vi 0)]) [2, 3, 4, 1, 5, 0] rfl ?_
      exact X12_mean_L116_ok ih fuN v1 v2 (v3 + (Int32.toInt64 x5)) v5 0 μ6
def X12_mean_L62 : Nat → Int32 → Int32 → Int32 → sM → Option (Int32 × sM)
  | 0, _, _, _, _ => none
  | n + 1, v1, v2, v3, μ =>
    if 76 ≤ v3 then
      X12_mean_L91 fuN v1 v2 0 0 μ
    else
      if inb v3 1740 = true then
        if inb v3 76 = true then
          X12_mean_L62 n v1 v2 (v3 + 1) (wI μ 63 0 (ix v3) (rI μ 61 0 (ix v3)))
        else none
      else none
theorem X12_mean_L62_ok : ∀ (n : Nat) (v1 : Int32) (v2 : Int32) (v3 : Int32) (μ : sM), sOk 12 cX12_mean 7 20 true 62 [(0, vr 13 0), (1, vi v1), (2, vi v2), (3, vi v3)] [] μ (oI (X12_mean_L62 n v1 v2 v3 μ)) := by
  intro n
  induction n with
  | zero =>
    intros
    exact sNo
  | succ n ih =>
    intro v1 v2 v3 μ
    unfold X12_mean_L62
    refine sBk (lo' := [(0, vr 13 0), (1, vi v1), (2, vi v2), (3, vi v3)]) (st' := [vi 76, vi v3]) (μ' := μ) (pc' := 65) [(.iload_n 3, 0, 0, 0, 0), (.bipush 76, 0, 0, 76, 0)] (by decide +kernel) rfl rfl ?_
    refine sIc_ge oI (off := 21) (tgt := 86) (by decide +kernel) (by decide) (fun _ => ?_) (fun _ => ?_)
    · refine sBk (lo' := [(5, vi 0), (3, vl 0), (0, vr 13 0), (1, vi v1), (2, vi v2)]) (st' := []) (μ' := μ) (pc' := 91) [(.lconst 0, 0, 0, 0, 0), (.lstore_n 3, 0, 0, 0, 0), (.iconst 0, 0, 0, 0, 0), (.istore 5, 0, 0, 0, 0)] (by decide +kernel) rfl rfl ?_
      refine sWk (lo' := [(0, vr 13 0), (1, vi v1), (2, vi v2), (3, vl 0), (5, vi 0)]) [2, 3, 4, 1, 0] rfl ?_
      exact X12_mean_L91_ok fuN v1 v2 0 0 μ
    · refine sBk (lo' := [(0, vr 13 0), (1, vi v1), (2, vi v2), (3, vi v3)]) (st' := [vi v3, vr 61 0, vi v3, vr 63 0]) (μ' := μ) (pc' := 78) [(.aload_n 0, 0, 0, 0, 0), (.getfield 41, 12, 22, 0, 0), (.iload_n 3, 0, 0, 0, 0), (.aload_n 0, 0, 0, 0, 0), (.getfield 35, 12, 20, 0, 0), (.iload_n 3, 0, 0, 0, 0)] (by decide +kernel) rfl rfl ?_
      refine sS_ial oI rfl (n := 1740) (j := (ix v3)) (by decide +kernel) rfl rfl rfl (fun _ => ?_)
      refine sS_ias oI rfl (n := 76) (j := (ix v3)) (by decide +kernel) rfl rfl rfl (fun _ => ?_)
      refine sBk (lo' := [(3, vi (v3 + 1)), (0, vr 13 0), (1, vi v1), (2, vi v2)]) (st' := []) (μ' := wI μ 63 0 (ix v3) (rI μ 61 0 (ix v3))) (pc' := 83) [(.iinc 3 1, 0, 0, 1, 0)] (by decide +kernel) rfl rfl ?_
      refine sGt (off := (-21)) (tgt := 62) (by decide +kernel) (by decide) ?_
      refine sWk (lo' := [(0, vr 13 0), (1, vi v1), (2, vi v2), (3, vi (v3 + 1))]) [1, 2, 3, 0] rfl ?_
      exact ih v1 v2 (v3 + 1) (wI μ 63 0 (ix v3) (rI μ 61 0 (ix v3)))
def X12_mean (a1 : Int32) (a2 : Int32) (μ : sM) : Option (Int32 × sM) :=
  bI (X12_isIn (Int32.toInt64 a2) 1 20 (wI (wI μ 13 0 1 0) 13 0 0 0)) fun x1 μ2 =>
    if x1 = 0 then
      X12_mean_J37 μ2
    else
      bI (X12_isIn (Int32.toInt64 a1) 0 (Int32.toInt64 (10000 - a2)) μ2) fun x3 μ4 =>
        if x3 = 0 then
          X12_mean_J37 μ4
        else
          if (rI μ4 61 0 76) = 0 then
            bI (X12_no 8 μ4) fun x5 μ6 =>
              if x5 = 0 ∨ x5 = 1 then some (x5, μ6) else none
          else
            X12_mean_L62 fuN a1 a2 0 μ4
theorem tX12_mean (a1 : Int32) (a2 : Int32) (μ : sM) : sMt yX12_mean cX12_mean 7 (some .boolean) 20 [vr 13 0, vi a1, vi a2] μ (oI (X12_mean a1 a2 μ)) := by
  refine sMt_of (own := 12) (bl := true) (by decide +kernel) rfl (Nat.le_of_ble_eq_true rfl) (fun r ρ h => ?_) ?_
  · obtain ⟨q, -, hq⟩ := Option.map_eq_some_iff.mp h
    cases hq
    exact Or.inr ⟨rfl, rfl⟩
  · unfold X12_mean
    show sOk 12 cX12_mean 7 20 true 0 [(0, vr 13 0), (1, vi a1), (2, vi a2)] [] μ _
    refine sBk (lo' := [(0, vr 13 0), (1, vi a1), (2, vi a2)]) (st' := [vl 20, vl 1, vl (Int32.toInt64 a2)]) (μ' := wI (wI μ 13 0 1 0) 13 0 0 0) (pc' := 16) [(.aload_n 0, 0, 0, 0, 0), (.iconst 0, 0, 0, 0, 0), (.putfield 72, 12, 1, 0, 0), (.aload_n 0, 0, 0, 0, 0), (.iconst 0, 0, 0, 0, 0), (.putfield 75, 12, 0, 0, 0), (.iload_n 2, 0, 0, 0, 0), (.i2l, 0, 0, 0, 0), (.lconst 1, 0, 0, 0, 1), (.ldc2_w 156, 0, 0, 0, 20)] (by decide +kernel) rfl rfl ?_
    refine sCsI oI rfl (avs := [vl (Int32.toInt64 a2), vl 1, vl 20]) (rest := []) (tX12_isIn (Int32.toInt64 a2) 1 20 (wI (wI μ 13 0 1 0) 13 0 0 0)) (by decide) (by decide +kernel) lk_12_107 ys_X12_isIn rfl rfl (Nat.le_of_ble_eq_true rfl) (fun x1 μ2 => ?_)
    refine sIf_eq oI (off := 18) (tgt := 37) (by decide +kernel) (by decide) (fun _ => ?_) (fun _ => ?_)
    · refine sWk (lo' := [(0, vr 13 0)]) [0] rfl ?_
      exact X12_mean_J37_ok μ2
    · refine sBk (lo' := [(0, vr 13 0), (1, vi a1), (2, vi a2)]) (st' := [vl (Int32.toInt64 (10000 - a2)), vl 0, vl (Int32.toInt64 a1)]) (μ' := μ2) (pc' := 31) [(.iload_n 1, 0, 0, 0, 0), (.i2l, 0, 0, 0, 0), (.lconst 0, 0, 0, 0, 0), (.sipush 10000, 0, 0, 10000, 0), (.iload_n 2, 0, 0, 0, 0), (.isub, 0, 0, 0, 0), (.i2l, 0, 0, 0, 0)] (by decide +kernel) rfl rfl ?_
      refine sCsI oI rfl (avs := [vl (Int32.toInt64 a1), vl 0, vl (Int32.toInt64 (10000 - a2))]) (rest := []) (tX12_isIn (Int32.toInt64 a1) 0 (Int32.toInt64 (10000 - a2)) μ2) (by decide) (by decide +kernel) lk_12_107 ys_X12_isIn rfl rfl (Nat.le_of_ble_eq_true rfl) (fun x3 μ4 => ?_)
      refine sIf_ne oI (off := 9) (tgt := 43) (by decide +kernel) (by decide) (fun _ => ?_) (fun _ => ?_)
      · refine sBk (lo' := [(0, vr 13 0), (1, vi a1), (2, vi a2)]) (st' := [vi 76, vr 61 0]) (μ' := μ4) (pc' := 49) [(.aload_n 0, 0, 0, 0, 0), (.getfield 35, 12, 20, 0, 0), (.bipush 76, 0, 0, 76, 0)] (by decide +kernel) rfl rfl ?_
        refine sC_ial (n := 1740) (j := 76) (by decide +kernel) (by decide +kernel) rfl rfl (by decide +kernel) ?_
        refine sIf_ne oI (off := 10) (tgt := 60) (by decide +kernel) (by decide) (fun _ => ?_) (fun _ => ?_)
        · refine sBk (lo' := [(3, vi 0), (0, vr 13 0), (1, vi a1), (2, vi a2)]) (st' := []) (μ' := μ4) (pc' := 62) [(.iconst 0, 0, 0, 0, 0), (.istore_n 3, 0, 0, 0, 0)] (by decide +kernel) rfl rfl ?_
          refine sWk (lo' := [(0, vr 13 0), (1, vi a1), (2, vi a2), (3, vi 0)]) [1, 2, 3, 0] rfl ?_
          exact X12_mean_L62_ok fuN a1 a2 0 μ4
        · refine sBk (lo' := [(0, vr 13 0), (1, vi a1), (2, vi a2)]) (st' := [vi 8, vr 13 0]) (μ' := μ4) (pc' := 56) [(.aload_n 0, 0, 0, 0, 0), (.bipush 8, 0, 0, 8, 0)] (by decide +kernel) rfl rfl ?_
          refine sCvI oI rfl (ci := 12) (q := (13, 0)) (avs := [vi 8]) (rest := []) (tX12_no 8 μ4) (by decide) (by decide +kernel) lk_12_87 yv_X12_no rfl (by decide) rfl rfl rfl (Nat.le_of_ble_eq_true rfl) (fun x5 μ6 => ?_)
          exact sCk oI rfl (fun h => sRi (by decide +kernel) (fun _ => h))
      · refine sWk (lo' := [(0, vr 13 0)]) [0] rfl ?_
        exact X12_mean_J37_ok μ4
/-! ClockRiverModel.mark -/
def X12_mark (μ : sM) : Option (Int32 × sM) :=
  if (rI μ 13 0 24) = 3 then
    bI (X12_refuse 7 (wI (wI μ 13 0 1 0) 13 0 0 0)) fun x3 μ4 =>
      some (x3, μ4)
  else
    bV (X12_copy 0 ((rI μ 13 0 24) + 1) (wI (wI (wI μ 13 0 1 0) 13 0 0 0) 13 0 24 ((rI μ 13 0 24) + 1))) fun μ2 =>
      some ((rI μ2 13 0 24), μ2)
theorem tX12_mark (μ : sM) : sMt yX12_mark cX12_mark 1 (some .int) 2 [vr 13 0] μ (oI (X12_mark μ)) := by
  refine sMt_of (own := 12) (bl := false) (by decide +kernel) rfl (Nat.le_of_ble_eq_true rfl) (fun r ρ h => ?_) ?_
  · obtain ⟨q, -, hq⟩ := Option.map_eq_some_iff.mp h
    cases hq
    exact Or.inl rfl
  · unfold X12_mark
    show sOk 12 cX12_mark 1 2 false 0 [(0, vr 13 0)] [] μ _
    refine sBk (lo' := [(0, vr 13 0)]) (st' := [vi 3, vi (rI μ 13 0 24)]) (μ' := wI (wI μ 13 0 1 0) 13 0 0 0) (pc' := 15) [(.aload_n 0, 0, 0, 0, 0), (.iconst 0, 0, 0, 0, 0), (.putfield 72, 12, 1, 0, 0), (.aload_n 0, 0, 0, 0, 0), (.iconst 0, 0, 0, 0, 0), (.putfield 75, 12, 0, 0, 0), (.aload_n 0, 0, 0, 0, 0), (.getfield 545, 12, 24, 0, 0), (.iconst 3, 0, 0, 3, 0)] (by decide +kernel) rfl rfl ?_
    refine sIc_ne oI (off := 10) (tgt := 25) (by decide +kernel) (by decide) (fun _ => ?_) (fun _ => ?_)
    · refine sBk (lo' := [(0, vr 13 0)]) (st' := [vi ((rI μ 13 0 24) + 1), vi 0, vr 13 0]) (μ' := wI (wI (wI μ 13 0 1 0) 13 0 0 0) 13 0 24 ((rI μ 13 0 24) + 1)) (pc' := 41) [(.aload_n 0, 0, 0, 0, 0), (.dup, 0, 0, 0, 0), (.getfield 545, 12, 24, 0, 0), (.iconst 1, 0, 0, 1, 0), (.iadd, 0, 0, 0, 0), (.putfield 545, 12, 24, 0, 0), (.aload_n 0, 0, 0, 0, 0), (.iconst 0, 0, 0, 0, 0), (.aload_n 0, 0, 0, 0, 0), (.getfield 545, 12, 24, 0, 0)] (by decide +kernel) rfl rfl ?_
      refine sCvV oI rfl (ci := 12) (q := (13, 0)) (avs := [vi 0, vi ((rI μ 13 0 24) + 1)]) (rest := []) (tX12_copy 0 ((rI μ 13 0 24) + 1) (wI (wI (wI μ 13 0 1 0) 13 0 0 0) 13 0 24 ((rI μ 13 0 24) + 1))) (by decide) (by decide +kernel) lk_12_305 yv_X12_copy rfl (by decide) rfl rfl rfl (Nat.le_of_ble_eq_true rfl) (fun μ2 => ?_)
      refine sBk (lo' := [(0, vr 13 0)]) (st' := [vi (rI μ2 13 0 24)]) (μ' := μ2) (pc' := 48) [(.aload_n 0, 0, 0, 0, 0), (.getfield 545, 12, 24, 0, 0)] (by decide +kernel) rfl rfl ?_
      exact sRi (by decide +kernel) (fun h => by cases h)
    · refine sBk (lo' := [(0, vr 13 0)]) (st' := [vi 7, vr 13 0]) (μ' := wI (wI μ 13 0 1 0) 13 0 0 0) (pc' := 21) [(.aload_n 0, 0, 0, 0, 0), (.bipush 7, 0, 0, 7, 0)] (by decide +kernel) rfl rfl ?_
      refine sCvI oI rfl (ci := 12) (q := (13, 0)) (avs := [vi 7]) (rest := []) (tX12_refuse 7 (wI (wI μ 13 0 1 0) 13 0 0 0)) (by decide) (by decide +kernel) lk_12_325 yv_X12_refuse rfl (by decide) rfl rfl rfl (Nat.le_of_ble_eq_true rfl) (fun x3 μ4 => ?_)
      exact sRi (by decide +kernel) (fun h => by cases h)
/-! ClockRiverModel.back -/
def X12_back (μ : sM) : Option (Int32 × sM) :=
  if (rI μ 13 0 24) = 0 then
    bI (X12_refuse 8 (wI (wI μ 13 0 1 0) 13 0 0 0)) fun x3 μ4 =>
      some (x3, μ4)
  else
    bV (X12_copy (rI μ 13 0 24) 0 (wI (wI μ 13 0 1 0) 13 0 0 0)) fun μ2 =>
      some (((rI μ2 13 0 24) - 1), wI μ2 13 0 24 ((rI μ2 13 0 24) - 1))
theorem tX12_back (μ : sM) : sMt yX12_back cX12_back 1 (some .int) 2 [vr 13 0] μ (oI (X12_back μ)) := by
  refine sMt_of (own := 12) (bl := false) (by decide +kernel) rfl (Nat.le_of_ble_eq_true rfl) (fun r ρ h => ?_) ?_
  · obtain ⟨q, -, hq⟩ := Option.map_eq_some_iff.mp h
    cases hq
    exact Or.inl rfl
  · unfold X12_back
    show sOk 12 cX12_back 1 2 false 0 [(0, vr 13 0)] [] μ _
    refine sBk (lo' := [(0, vr 13 0)]) (st' := [vi (rI μ 13 0 24)]) (μ' := wI (wI μ 13 0 1 0) 13 0 0 0) (pc' := 14) [(.aload_n 0, 0, 0, 0, 0), (.iconst 0, 0, 0, 0, 0), (.putfield 72, 12, 1, 0, 0), (.aload_n 0, 0, 0, 0, 0), (.iconst 0, 0, 0, 0, 0), (.putfield 75, 12, 0, 0, 0), (.aload_n 0, 0, 0, 0, 0), (.getfield 545, 12, 24, 0, 0)] (by decide +kernel) rfl rfl ?_
    refine sIf_ne oI (off := 10) (tgt := 24) (by decide +kernel) (by decide) (fun _ => ?_) (fun _ => ?_)
    · refine sBk (lo' := [(0, vr 13 0)]) (st' := [vi 0, vi (rI μ 13 0 24), vr 13 0]) (μ' := wI (wI μ 13 0 1 0) 13 0 0 0) (pc' := 30) [(.aload_n 0, 0, 0, 0, 0), (.aload_n 0, 0, 0, 0, 0), (.getfield 545, 12, 24, 0, 0), (.iconst 0, 0, 0, 0, 0)] (by decide +kernel) rfl rfl ?_
      refine sCvV oI rfl (ci := 12) (q := (13, 0)) (avs := [vi (rI μ 13 0 24), vi 0]) (rest := []) (tX12_copy (rI μ 13 0 24) 0 (wI (wI μ 13 0 1 0) 13 0 0 0)) (by decide) (by decide +kernel) lk_12_305 yv_X12_copy rfl (by decide) rfl rfl rfl (Nat.le_of_ble_eq_true rfl) (fun μ2 => ?_)
      refine sBk (lo' := [(0, vr 13 0)]) (st' := [vi ((rI μ2 13 0 24) - 1)]) (μ' := wI μ2 13 0 24 ((rI μ2 13 0 24) - 1)) (pc' := 47) [(.aload_n 0, 0, 0, 0, 0), (.dup, 0, 0, 0, 0), (.getfield 545, 12, 24, 0, 0), (.iconst 1, 0, 0, 1, 0), (.isub, 0, 0, 0, 0), (.putfield 545, 12, 24, 0, 0), (.aload_n 0, 0, 0, 0, 0), (.getfield 545, 12, 24, 0, 0)] (by decide +kernel) rfl rfl ?_
      exact sRi (by decide +kernel) (fun h => by cases h)
    · refine sBk (lo' := [(0, vr 13 0)]) (st' := [vi 8, vr 13 0]) (μ' := wI (wI μ 13 0 1 0) 13 0 0 0) (pc' := 20) [(.aload_n 0, 0, 0, 0, 0), (.bipush 8, 0, 0, 8, 0)] (by decide +kernel) rfl rfl ?_
      refine sCvI oI rfl (ci := 12) (q := (13, 0)) (avs := [vi 8]) (rest := []) (tX12_refuse 8 (wI (wI μ 13 0 1 0) 13 0 0 0)) (by decide) (by decide +kernel) lk_12_325 yv_X12_refuse rfl (by decide) rfl rfl rfl (Nat.le_of_ble_eq_true rfl) (fun x3 μ4 => ?_)
      exact sRi (by decide +kernel) (fun h => by cases h)
