theorem lk_12_467 : Cond.methodLink (kRn 12) 467 yX12_areTurns ∈ sT := sT_in (n := 2126) (by decide +kernel) rfl
theorem lk_12_470 : Cond.methodLink (kRn 12) 470 yX12_laysWound ∈ sT := sT_in (n := 2130) (by decide +kernel) rfl
theorem lk_12_473 : Cond.methodLink (kRn 12) 473 yX12_plays ∈ sT := sT_in (n := 2150) (by decide +kernel) rfl
theorem lk_12_480 : Cond.methodLink (kRn 12) 480 yX12_whyNoGame ∈ sT := sT_in (n := 2146) (by decide +kernel) rfl
theorem lk_12_483 : Cond.methodLink (kRn 12) 483 yX12_fraction ∈ sT := sT_in (n := 2162) (by decide +kernel) rfl
theorem ys_X12_areTurns : yS yX12_areTurns cX12_areTurns 2 (some .boolean) 2 := ⟨⟨sT_in (n := 2128) (by decide +kernel) rfl, sT_in (n := 149) (by decide +kernel) rfl, by decide +kernel, by decide⟩, sT_in (n := 2127) (by decide +kernel) rfl⟩
theorem yv_X12_fraction : yV yX12_fraction cX12_fraction 11 (some .boolean) 2 := ⟨⟨sT_in (n := 2165) (by decide +kernel) rfl, sT_in (n := 149) (by decide +kernel) rfl, by decide +kernel, by decide⟩, sT_in (n := 2164) (by decide +kernel) rfl, sT_in (n := 126) (by decide +kernel) rfl⟩
theorem yv_X12_laysWound : yV yX12_laysWound cX12_laysWound 7 none 2 := ⟨⟨sT_in (n := 2133) (by decide +kernel) rfl, sT_in (n := 149) (by decide +kernel) rfl, by decide +kernel, by decide⟩, sT_in (n := 2132) (by decide +kernel) rfl, sT_in (n := 123) (by decide +kernel) rfl⟩
theorem yv_X12_plays : yV yX12_plays cX12_plays 11 (some .int) 4 := ⟨⟨sT_in (n := 2153) (by decide +kernel) rfl, sT_in (n := 149) (by decide +kernel) rfl, by decide +kernel, by decide⟩, sT_in (n := 2152) (by decide +kernel) rfl, sT_in (n := 125) (by decide +kernel) rfl⟩
theorem yv_X12_whyNoGame : yV yX12_whyNoGame cX12_whyNoGame 5 (some .int) 4 := ⟨⟨sT_in (n := 2149) (by decide +kernel) rfl, sT_in (n := 149) (by decide +kernel) rfl, by decide +kernel, by decide⟩, sT_in (n := 2148) (by decide +kernel) rfl, sT_in (n := 124) (by decide +kernel) rfl⟩
/-! ClockRiverModel.areTurns -/
def X12_areTurns (a0 : Int32) (a1 : Int32) (μ : sM) : Option (Int32 × sM) :=
  bI (X12_isIn (Int32.toInt64 a0) 0 60 μ) fun x1 μ2 =>
    if x1 = 0 then
      some (0, μ2)
    else
      bI (X12_isIn (Int32.toInt64 a1) 0 60 μ2) fun x3 μ4 =>
        if x3 = 0 then
          some (0, μ4)
        else
          some (1, μ4)
theorem tX12_areTurns (a0 : Int32) (a1 : Int32) (μ : sM) : sMt yX12_areTurns cX12_areTurns 2 (some .boolean) 2 [vi a0, vi a1] μ (oI (X12_areTurns a0 a1 μ)) := by
  refine sMt_of (own := 12) (bl := true) (by decide +kernel) rfl (Nat.le_of_ble_eq_true rfl) (fun r ρ h => ?_) ?_
  · obtain ⟨q, -, hq⟩ := Option.map_eq_some_iff.mp h
    cases hq
    exact Or.inr ⟨rfl, rfl⟩
  · unfold X12_areTurns
    show sOk 12 cX12_areTurns 2 2 true 0 [(0, vi a0), (1, vi a1)] [] μ _
    refine sBk (lo' := [(0, vi a0), (1, vi a1)]) (st' := [vl 60, vl 0, vl (Int32.toInt64 a0)]) (μ' := μ) (pc' := 6) [(.iload_n 0, 0, 0, 0, 0), (.i2l, 0, 0, 0, 0), (.lconst 0, 0, 0, 0, 0), (.ldc2_w 465, 0, 0, 0, 60)] (by decide +kernel) rfl rfl ?_
    refine sCsI oI rfl (avs := [vl (Int32.toInt64 a0), vl 0, vl 60]) (rest := []) (tX12_isIn (Int32.toInt64 a0) 0 60 μ) (by decide) (by decide +kernel) lk_12_107 ys_X12_isIn rfl rfl (Nat.le_of_ble_eq_true rfl) (fun x1 μ2 => ?_)
    refine sIf_eq oI (off := 19) (tgt := 28) (by decide +kernel) (by decide) (fun _ => ?_) (fun _ => ?_)
    · refine sBk (lo' := [(0, vi a0), (1, vi a1)]) (st' := [vi 0]) (μ' := μ2) (pc' := 29) [(.iconst 0, 0, 0, 0, 0)] (by decide +kernel) rfl rfl ?_
      exact sRi (by decide +kernel) (fun _ => Or.inl rfl)
    · refine sBk (lo' := [(0, vi a0), (1, vi a1)]) (st' := [vl 60, vl 0, vl (Int32.toInt64 a1)]) (μ' := μ2) (pc' := 18) [(.iload_n 1, 0, 0, 0, 0), (.i2l, 0, 0, 0, 0), (.lconst 0, 0, 0, 0, 0), (.ldc2_w 465, 0, 0, 0, 60)] (by decide +kernel) rfl rfl ?_
      refine sCsI oI rfl (avs := [vl (Int32.toInt64 a1), vl 0, vl 60]) (rest := []) (tX12_isIn (Int32.toInt64 a1) 0 60 μ2) (by decide) (by decide +kernel) lk_12_107 ys_X12_isIn rfl rfl (Nat.le_of_ble_eq_true rfl) (fun x3 μ4 => ?_)
      refine sIf_eq oI (off := 7) (tgt := 28) (by decide +kernel) (by decide) (fun _ => ?_) (fun _ => ?_)
      · refine sBk (lo' := [(0, vi a0), (1, vi a1)]) (st' := [vi 0]) (μ' := μ4) (pc' := 29) [(.iconst 0, 0, 0, 0, 0)] (by decide +kernel) rfl rfl ?_
        exact sRi (by decide +kernel) (fun _ => Or.inl rfl)
      · refine sBk (lo' := [(0, vi a0), (1, vi a1)]) (st' := [vi 1]) (μ' := μ4) (pc' := 25) [(.iconst 1, 0, 0, 1, 0)] (by decide +kernel) rfl rfl ?_
        refine sGt (off := 4) (tgt := 29) (by decide +kernel) (by decide) ?_
        exact sRi (by decide +kernel) (fun _ => Or.inr rfl)
/-! ClockRiverModel.laysWound -/
def X12_laysWound_J105 (k26 : Int32 → Int32 → Int32 → sM → Option sM) (k47 : Int32 → Int32 → Int32 → Int32 → Int32 → Int32 → sM → Option sM) (v1 : Int32) (v2 : Int32) (v3 : Int32) (v4 : Int32) (v5 : Int32) (v6 : Int32) (μ : sM) : Option sM :=
  k47 v1 v2 v3 v4 v5 (v6 + 1) μ
theorem X12_laysWound_J105_ok {k26 : Int32 → Int32 → Int32 → sM → Option sM} {k47 : Int32 → Int32 → Int32 → Int32 → Int32 → Int32 → sM → Option sM} (hk26 : ∀ (v1 : Int32) (v2 : Int32) (v3 : Int32) (μ : sM), sOk 12 cX12_laysWound 7 2 false 26 [(0, vr 13 0), (1, vi v1), (2, vi v2), (3, vi v3)] [] μ (oV (k26 v1 v2 v3 μ))) (hk47 : ∀ (v1 : Int32) (v2 : Int32) (v3 : Int32) (v4 : Int32) (v5 : Int32) (v6 : Int32) (μ : sM), sOk 12 cX12_laysWound 7 2 false 47 [(0, vr 13 0), (1, vi v1), (2, vi v2), (3, vi v3), (4, vi v4), (5, vi v5), (6, vi v6)] [] μ (oV (k47 v1 v2 v3 v4 v5 v6 μ))) (v1 : Int32) (v2 : Int32) (v3 : Int32) (v4 : Int32) (v5 : Int32) (v6 : Int32) (μ : sM) : sOk 12 cX12_laysWound 7 2 false 105 [(0, vr 13 0), (1, vi v1), (2, vi v2), (3, vi v3), (4, vi v4), (5, vi v5), (6, vi v6)] [] μ (oV (X12_laysWound_J105 k26 k47 v1 v2 v3 v4 v5 v6 μ)) := by
  unfold X12_laysWound_J105
  refine sBk (lo' := [(6, vi (v6 + 1)), (0, vr 13 0), (1, vi v1), (2, vi v2), (3, vi v3), (4, vi v4), (5, vi v5)]) (st' := []) (μ' := μ) (pc' := 108) [(.iinc 6 1, 0, 0, 1, 0)] (by decide +kernel) rfl rfl ?_
  refine sGt (off := (-61)) (tgt := 47) (by decide +kernel) (by decide) ?_
  refine sWk (lo' := [(0, vr 13 0), (1, vi v1), (2, vi v2), (3, vi v3), (4, vi v4), (5, vi v5), (6, vi (v6 + 1))]) [1, 2, 3, 4, 5, 6, 0] rfl ?_
  exact hk47 v1 v2 v3 v4 v5 (v6 + 1) μ
def X12_laysWound_J165 (k26 : Int32 → Int32 → Int32 → sM → Option sM) (v1 : Int32) (v2 : Int32) (v3 : Int32) (μ : sM) : Option sM :=
  k26 v1 v2 (v3 + 1) μ
theorem X12_laysWound_J165_ok {k26 : Int32 → Int32 → Int32 → sM → Option sM} (hk26 : ∀ (v1 : Int32) (v2 : Int32) (v3 : Int32) (μ : sM), sOk 12 cX12_laysWound 7 2 false 26 [(0, vr 13 0), (1, vi v1), (2, vi v2), (3, vi v3)] [] μ (oV (k26 v1 v2 v3 μ))) (v1 : Int32) (v2 : Int32) (v3 : Int32) (μ : sM) : sOk 12 cX12_laysWound 7 2 false 165 [(0, vr 13 0), (1, vi v1), (2, vi v2), (3, vi v3)] [] μ (oV (X12_laysWound_J165 k26 v1 v2 v3 μ)) := by
  unfold X12_laysWound_J165
  refine sBk (lo' := [(3, vi (v3 + 1)), (0, vr 13 0), (1, vi v1), (2, vi v2)]) (st' := []) (μ' := μ) (pc' := 168) [(.iinc 3 1, 0, 0, 1, 0)] (by decide +kernel) rfl rfl ?_
  refine sGt (off := (-142)) (tgt := 26) (by decide +kernel) (by decide) ?_
  refine sWk (lo' := [(0, vr 13 0), (1, vi v1), (2, vi v2), (3, vi (v3 + 1))]) [1, 2, 3, 0] rfl ?_
  exact hk26 v1 v2 (v3 + 1) μ
def X12_laysWound_J162 (k26 : Int32 → Int32 → Int32 → sM → Option sM) (v1 : Int32) (v2 : Int32) (v3 : Int32) (s0 : Int32) (μ : sM) : Option sM :=
  X12_laysWound_J165 k26 v1 v2 v3 (wI μ 13 0 36 s0)
theorem X12_laysWound_J162_ok {k26 : Int32 → Int32 → Int32 → sM → Option sM} (hk26 : ∀ (v1 : Int32) (v2 : Int32) (v3 : Int32) (μ : sM), sOk 12 cX12_laysWound 7 2 false 26 [(0, vr 13 0), (1, vi v1), (2, vi v2), (3, vi v3)] [] μ (oV (k26 v1 v2 v3 μ))) (v1 : Int32) (v2 : Int32) (v3 : Int32) (s0 : Int32) (μ : sM) : sOk 12 cX12_laysWound 7 2 false 162 [(0, vr 13 0), (1, vi v1), (2, vi v2), (3, vi v3)] [vi s0, vr 13 0] μ (oV (X12_laysWound_J162 k26 v1 v2 v3 s0 μ)) := by
  unfold X12_laysWound_J162
  refine sBk (lo' := [(0, vr 13 0), (1, vi v1), (2, vi v2), (3, vi v3)]) (st' := []) (μ' := wI μ 13 0 36 s0) (pc' := 165) [(.putfield 462, 12, 36, 0, 0)] (by decide +kernel) rfl rfl ?_
  exact X12_laysWound_J165_ok hk26 v1 v2 v3 (wI μ 13 0 36 s0)
def X12_laysWound_L47 (k26 : Int32 → Int32 → Int32 → sM → Option sM) : Nat → Int32 → Int32 → Int32 → Int32 → Int32 → Int32 → sM → Option sM
  | 0, _, _, _, _, _, _, _ => none
  | n + 1, v1, v2, v3, v4, v5, v6, μ =>
    if (rI μ 61 0 2) ≤ v6 then
      if v4 = v2 then
        if 0 ≤ (rI μ 13 0 36) then
          X12_laysWound_J162 k26 v1 v2 v3 (imn (rI μ 13 0 36) v5) (wI (wI μ 13 0 34 ((rI μ 13 0 34) + 1)) 13 0 35 ((rI μ 13 0 35) &&& v3))
        else
          X12_laysWound_J162 k26 v1 v2 v3 v5 (wI (wI μ 13 0 34 ((rI μ 13 0 34) + 1)) 13 0 35 ((rI μ 13 0 35) &&& v3))
      else
        X12_laysWound_J165 k26 v1 v2 v3 μ
    else
      bI (X12_has v3 v6 μ) fun x1 μ2 =>
        if x1 = 0 then
          X12_laysWound_J105 k26 (X12_laysWound_L47 k26 n) v1 v2 v3 v4 v5 v6 μ2
        else
          if inb (52 + v6) 1740 = true then
            if inb (58 + v6) 1740 = true then
              X12_laysWound_J105 k26 (X12_laysWound_L47 k26 n) v1 v2 v3 (imn 60 (v4 + (rI μ2 61 0 (ix (52 + v6))))) (v5 + (rI μ2 61 0 (ix (58 + v6)))) v6 μ2
            else none
          else none
theorem X12_laysWound_L47_ok {k26 : Int32 → Int32 → Int32 → sM → Option sM} (hk26 : ∀ (v1 : Int32) (v2 : Int32) (v3 : Int32) (μ : sM), sOk 12 cX12_laysWound 7 2 false 26 [(0, vr 13 0), (1, vi v1), (2, vi v2), (3, vi v3)] [] μ (oV (k26 v1 v2 v3 μ))) : ∀ (n : Nat) (v1 : Int32) (v2 : Int32) (v3 : Int32) (v4 : Int32) (v5 : Int32) (v6 : Int32) (μ : sM), sOk 12 cX12_laysWound 7 2 false 47 [(0, vr 13 0), (1, vi v1), (2, vi v2), (3, vi v3), (4, vi v4), (5, vi v5), (6, vi v6)] [] μ (oV (X12_laysWound_L47 k26 n v1 v2 v3 v4 v5 v6 μ)) := by
  intro n
  induction n with
  | zero =>
    intros
    exact sNo
  | succ n ih =>
    intro v1 v2 v3 v4 v5 v6 μ
    unfold X12_laysWound_L47
    refine sBk (lo' := [(0, vr 13 0), (1, vi v1), (2, vi v2), (3, vi v3), (4, vi v4), (5, vi v5), (6, vi v6)]) (st' := [vi 2, vr 61 0, vi v6]) (μ' := μ) (pc' := 54) [(.iload 6, 0, 0, 0, 0), (.aload_n 0, 0, 0, 0, 0), (.getfield 35, 12, 20, 0, 0), (.iconst 2, 0, 0, 2, 0)] (by decide +kernel) rfl rfl ?_
    refine sC_ial (n := 1740) (j := 2) (by decide +kernel) (by decide +kernel) rfl rfl (by decide +kernel) ?_
    refine sIc_ge oV (off := 56) (tgt := 111) (by decide +kernel) (by decide) (fun _ => ?_) (fun _ => ?_)
    · refine sBk (lo' := [(0, vr 13 0), (1, vi v1), (2, vi v2), (3, vi v3), (4, vi v4), (5, vi v5), (6, vi v6)]) (st' := [vi v2, vi v4]) (μ' := μ) (pc' := 114) [(.iload 4, 0, 0, 0, 0), (.iload_n 2, 0, 0, 0, 0)] (by decide +kernel) rfl rfl ?_
      refine sIc_eq oV (off := 6) (tgt := 120) (by decide +kernel) (by decide) (fun _ => ?_) (fun _ => ?_)
      · refine sBk (lo' := [(0, vr 13 0), (1, vi v1), (2, vi v2), (3, vi v3), (4, vi v4), (5, vi v5), (6, vi v6)]) (st' := [vi (rI μ 13 0 36), vr 13 0]) (μ' := wI (wI μ 13 0 34 ((rI μ 13 0 34) + 1)) 13 0 35 ((rI μ 13 0 35) &&& v3)) (pc' := 145) [(.aload_n 0, 0, 0, 0, 0), (.dup, 0, 0, 0, 0), (.getfield 456, 12, 34, 0, 0), (.iconst 1, 0, 0, 1, 0), (.iadd, 0, 0, 0, 0), (.putfield 456, 12, 34, 0, 0), (.aload_n 0, 0, 0, 0, 0), (.dup, 0, 0, 0, 0), (.getfield 459, 12, 35, 0, 0), (.iload_n 3, 0, 0, 0, 0), (.iand, 0, 0, 0, 0), (.putfield 459, 12, 35, 0, 0), (.aload_n 0, 0, 0, 0, 0), (.aload_n 0, 0, 0, 0, 0), (.getfield 462, 12, 36, 0, 0)] (by decide +kernel) rfl rfl ?_
        refine sIf_ge oV (off := 8) (tgt := 153) (by decide +kernel) (by decide) (fun _ => ?_) (fun _ => ?_)
        · refine sBk (lo' := [(0, vr 13 0), (1, vi v1), (2, vi v2), (3, vi v3), (4, vi v4), (5, vi v5), (6, vi v6)]) (st' := [vi v5, vi (rI μ 13 0 36), vr 13 0]) (μ' := wI (wI μ 13 0 34 ((rI μ 13 0 34) + 1)) 13 0 35 ((rI μ 13 0 35) &&& v3)) (pc' := 159) [(.aload_n 0, 0, 0, 0, 0), (.getfield 462, 12, 36, 0, 0), (.iload 5, 0, 0, 0, 0)] (by decide +kernel) rfl rfl ?_
          refine sMin (idx := 336) (p1 := 1911) (by decide +kernel) (by decide) (Nat.le_of_ble_eq_true rfl) ?_
          refine sWk (lo' := [(0, vr 13 0), (1, vi v1), (2, vi v2), (3, vi v3)]) [0, 1, 2, 3] rfl ?_
          exact X12_laysWound_J162_ok hk26 v1 v2 v3 (imn (rI μ 13 0 36) v5) (wI (wI μ 13 0 34 ((rI μ 13 0 34) + 1)) 13 0 35 ((rI μ 13 0 35) &&& v3))
        · refine sBk (lo' := [(0, vr 13 0), (1, vi v1), (2, vi v2), (3, vi v3), (4, vi v4), (5, vi v5), (6, vi v6)]) (st' := [vi v5, vr 13 0]) (μ' := wI (wI μ 13 0 34 ((rI μ 13 0 34) + 1)) 13 0 35 ((rI μ 13 0 35) &&& v3)) (pc' := 150) [(.iload 5, 0, 0, 0, 0)] (by decide +kernel) rfl rfl ?_
          refine sGt (off := 12) (tgt := 162) (by decide +kernel) (by decide) ?_
          refine sWk (lo' := [(0, vr 13 0), (1, vi v1), (2, vi v2), (3, vi v3)]) [0, 1, 2, 3] rfl ?_
          exact X12_laysWound_J162_ok hk26 v1 v2 v3 v5 (wI (wI μ 13 0 34 ((rI μ 13 0 34) + 1)) 13 0 35 ((rI μ 13 0 35) &&& v3))
      · refine sGt (off := 48) (tgt := 165) (by decide +kernel) (by decide) ?_
        refine sWk (lo' := [(0, vr 13 0), (1, vi v1), (2, vi v2), (3, vi v3)]) [0, 1, 2, 3] rfl ?_
        exact X12_laysWound_J165_ok hk26 v1 v2 v3 μ
    · refine sBk (lo' := [(0, vr 13 0), (1, vi v1), (2, vi v2), (3, vi v3), (4, vi v4), (5, vi v5), (6, vi v6)]) (st' := [vi v6, vi v3]) (μ' := μ) (pc' := 61) [(.iload_n 3, 0, 0, 0, 0), (.iload 6, 0, 0, 0, 0)] (by decide +kernel) rfl rfl ?_
      refine sCsI oV rfl (avs := [vi v3, vi v6]) (rest := []) (tX12_has v3 v6 μ) (by decide) (by decide +kernel) lk_12_262 ys_X12_has rfl rfl (Nat.le_of_ble_eq_true rfl) (fun x1 μ2 => ?_)
      refine sIf_ne oV (off := 6) (tgt := 70) (by decide +kernel) (by decide) (fun _ => ?_) (fun _ => ?_)
      · refine sBk (lo' := [(0, vr 13 0), (1, vi v1), (2, vi v2), (3, vi v3), (4, vi v4), (5, vi v5), (6, vi v6)]) (st' := [vi (52 + v6), vr 61 0, vi v4, vi 60]) (μ' := μ2) (pc' := 83) [(.bipush 60, 0, 0, 60, 0), (.iload 4, 0, 0, 0, 0), (.aload_n 0, 0, 0, 0, 0), (.getfield 35, 12, 20, 0, 0), (.bipush 52, 0, 0, 52, 0), (.iload 6, 0, 0, 0, 0), (.iadd, 0, 0, 0, 0)] (by decide +kernel) rfl rfl ?_
        refine sS_ial oV rfl (n := 1740) (j := (ix (52 + v6))) (by decide +kernel) rfl rfl rfl (fun _ => ?_)
        refine sBk (lo' := [(0, vr 13 0), (1, vi v1), (2, vi v2), (3, vi v3), (4, vi v4), (5, vi v5), (6, vi v6)]) (st' := [vi (v4 + (rI μ2 61 0 (ix (52 + v6)))), vi 60]) (μ' := μ2) (pc' := 85) [(.iadd, 0, 0, 0, 0)] (by decide +kernel) rfl rfl ?_
        refine sMin (idx := 336) (p1 := 1911) (by decide +kernel) (by decide) (Nat.le_of_ble_eq_true rfl) ?_
        refine sBk (lo' := [(4, vi (imn 60 (v4 + (rI μ2 61 0 (ix (52 + v6)))))), (0, vr 13 0), (1, vi v1), (2, vi v2), (3, vi v3), (5, vi v5), (6, vi v6)]) (st' := [vi (58 + v6), vr 61 0, vi v5]) (μ' := μ2) (pc' := 101) [(.istore 4, 0, 0, 0, 0), (.iload 5, 0, 0, 0, 0), (.aload_n 0, 0, 0, 0, 0), (.getfield 35, 12, 20, 0, 0), (.bipush 58, 0, 0, 58, 0), (.iload 6, 0, 0, 0, 0), (.iadd, 0, 0, 0, 0)] (by decide +kernel) rfl rfl ?_
        refine sS_ial oV rfl (n := 1740) (j := (ix (58 + v6))) (by decide +kernel) rfl rfl rfl (fun _ => ?_)
        refine sBk (lo' := [(5, vi (v5 + (rI μ2 61 0 (ix (58 + v6))))), (4, vi (imn 60 (v4 + (rI μ2 61 0 (ix (52 + v6)))))), (0, vr 13 0), (1, vi v1), (2, vi v2), (3, vi v3), (6, vi v6)]) (st' := []) (μ' := μ2) (pc' := 105) [(.iadd, 0, 0, 0, 0), (.istore 5, 0, 0, 0, 0)] (by decide +kernel) rfl rfl ?_
        refine sWk (lo' := [(0, vr 13 0), (1, vi v1), (2, vi v2), (3, vi v3), (4, vi (imn 60 (v4 + (rI μ2 61 0 (ix (52 + v6)))))), (5, vi (v5 + (rI μ2 61 0 (ix (58 + v6))))), (6, vi v6)]) [2, 3, 4, 5, 1, 0, 6] rfl ?_
        exact X12_laysWound_J105_ok hk26 ih v1 v2 v3 (imn 60 (v4 + (rI μ2 61 0 (ix (52 + v6))))) (v5 + (rI μ2 61 0 (ix (58 + v6)))) v6 μ2
      · refine sGt (off := 38) (tgt := 105) (by decide +kernel) (by decide) ?_
        exact X12_laysWound_J105_ok hk26 ih v1 v2 v3 v4 v5 v6 μ2
def X12_laysWound_L26 : Nat → Int32 → Int32 → Int32 → sM → Option sM
  | 0, _, _, _, _ => none
  | n + 1, v1, v2, v3, μ =>
    if (isl 1 (rI μ 61 0 2)) ≤ v3 then
      some μ
    else
      X12_laysWound_L47 (X12_laysWound_L26 n) fuN v1 v2 v3 v1 0 0 μ
theorem X12_laysWound_L26_ok : ∀ (n : Nat) (v1 : Int32) (v2 : Int32) (v3 : Int32) (μ : sM), sOk 12 cX12_laysWound 7 2 false 26 [(0, vr 13 0), (1, vi v1), (2, vi v2), (3, vi v3)] [] μ (oV (X12_laysWound_L26 n v1 v2 v3 μ)) := by
  intro n
  induction n with
  | zero =>
    intros
    exact sNo
  | succ n ih =>
    intro v1 v2 v3 μ
    unfold X12_laysWound_L26
    refine sBk (lo' := [(0, vr 13 0), (1, vi v1), (2, vi v2), (3, vi v3)]) (st' := [vi 2, vr 61 0, vi 1, vi v3]) (μ' := μ) (pc' := 33) [(.iload_n 3, 0, 0, 0, 0), (.iconst 1, 0, 0, 1, 0), (.aload_n 0, 0, 0, 0, 0), (.getfield 35, 12, 20, 0, 0), (.iconst 2, 0, 0, 2, 0)] (by decide +kernel) rfl rfl ?_
    refine sC_ial (n := 1740) (j := 2) (by decide +kernel) (by decide +kernel) rfl rfl (by decide +kernel) ?_
    refine sBk (lo' := [(0, vr 13 0), (1, vi v1), (2, vi v2), (3, vi v3)]) (st' := [vi (isl 1 (rI μ 61 0 2)), vi v3]) (μ' := μ) (pc' := 35) [(.ishl, 0, 0, 0, 0)] (by decide +kernel) rfl rfl ?_
    refine sIc_ge oV (off := 136) (tgt := 171) (by decide +kernel) (by decide) (fun _ => ?_) (fun _ => ?_)
    · exact sRv (by decide +kernel)
    · refine sBk (lo' := [(6, vi 0), (5, vi 0), (4, vi v1), (0, vr 13 0), (1, vi v1), (2, vi v2), (3, vi v3)]) (st' := []) (μ' := μ) (pc' := 47) [(.iload_n 1, 0, 0, 0, 0), (.istore 4, 0, 0, 0, 0), (.iconst 0, 0, 0, 0, 0), (.istore 5, 0, 0, 0, 0), (.iconst 0, 0, 0, 0, 0), (.istore 6, 0, 0, 0, 0)] (by decide +kernel) rfl rfl ?_
      refine sWk (lo' := [(0, vr 13 0), (1, vi v1), (2, vi v2), (3, vi v3), (4, vi v1), (5, vi 0), (6, vi 0)]) [3, 4, 5, 6, 2, 1, 0] rfl ?_
      exact X12_laysWound_L47_ok ih fuN v1 v2 v3 v1 0 0 μ
def X12_laysWound (a1 : Int32) (a2 : Int32) (μ : sM) : Option sM :=
  X12_laysWound_L26 fuN a1 a2 0 (wI (wI (wI μ 13 0 34 0) 13 0 35 ((isl 1 (rI μ 61 0 2)) - 1)) 13 0 36 (-1))
theorem tX12_laysWound (a1 : Int32) (a2 : Int32) (μ : sM) : sMt yX12_laysWound cX12_laysWound 7 none 2 [vr 13 0, vi a1, vi a2] μ (oV (X12_laysWound a1 a2 μ)) := by
  refine sMt_of (own := 12) (bl := false) (by decide +kernel) rfl (Nat.le_of_ble_eq_true rfl) (fun r ρ h => ?_) ?_
  · obtain ⟨q, -, hq⟩ := Option.map_eq_some_iff.mp h
    cases hq
    exact rfl
  · unfold X12_laysWound
    show sOk 12 cX12_laysWound 7 2 false 0 [(0, vr 13 0), (1, vi a1), (2, vi a2)] [] μ _
    refine sBk (lo' := [(0, vr 13 0), (1, vi a1), (2, vi a2)]) (st' := [vi 2, vr 61 0, vi 1, vr 13 0]) (μ' := wI μ 13 0 34 0) (pc' := 12) [(.aload_n 0, 0, 0, 0, 0), (.iconst 0, 0, 0, 0, 0), (.putfield 456, 12, 34, 0, 0), (.aload_n 0, 0, 0, 0, 0), (.iconst 1, 0, 0, 1, 0), (.aload_n 0, 0, 0, 0, 0), (.getfield 35, 12, 20, 0, 0), (.iconst 2, 0, 0, 2, 0)] (by decide +kernel) rfl rfl ?_
    refine sC_ial (n := 1740) (j := 2) (by decide +kernel) (by decide +kernel) rfl rfl (by decide +kernel) ?_
    refine sBk (lo' := [(3, vi 0), (0, vr 13 0), (1, vi a1), (2, vi a2)]) (st' := []) (μ' := wI (wI (wI μ 13 0 34 0) 13 0 35 ((isl 1 (rI μ 61 0 2)) - 1)) 13 0 36 (-1)) (pc' := 26) [(.ishl, 0, 0, 0, 0), (.iconst 1, 0, 0, 1, 0), (.isub, 0, 0, 0, 0), (.putfield 459, 12, 35, 0, 0), (.aload_n 0, 0, 0, 0, 0), (.iconst (-1), 0, 0, (-1), 0), (.putfield 462, 12, 36, 0, 0), (.iconst 0, 0, 0, 0, 0), (.istore_n 3, 0, 0, 0, 0)] (by decide +kernel) rfl rfl ?_
    refine sWk (lo' := [(0, vr 13 0), (1, vi a1), (2, vi a2), (3, vi 0)]) [1, 2, 3, 0] rfl ?_
    exact X12_laysWound_L26_ok fuN a1 a2 0 (wI (wI (wI μ 13 0 34 0) 13 0 35 ((isl 1 (rI μ 61 0 2)) - 1)) 13 0 36 (-1))
/-! ClockRiverModel.wound -/
def X12_wound (a1 : Int32) (a2 : Int32) (μ : sM) : Option (Int32 × sM) :=
  bI (X12_areTurns a1 a2 (wI (wI μ 13 0 1 0) 13 0 0 0)) fun x1 μ2 =>
    if x1 = 0 then
      bI (X12_refuse 5 μ2) fun x5 μ6 =>
        some (x5, μ6)
    else
      bV (X12_laysWound a1 a2 μ2) fun μ4 =>
        some ((rI μ4 13 0 34), μ4)
theorem tX12_wound (a1 : Int32) (a2 : Int32) (μ : sM) : sMt yX12_wound cX12_wound 3 (some .int) 3 [vr 13 0, vi a1, vi a2] μ (oI (X12_wound a1 a2 μ)) := by
  refine sMt_of (own := 12) (bl := false) (by decide +kernel) rfl (Nat.le_of_ble_eq_true rfl) (fun r ρ h => ?_) ?_
  · obtain ⟨q, -, hq⟩ := Option.map_eq_some_iff.mp h
    cases hq
    exact Or.inl rfl
  · unfold X12_wound
    show sOk 12 cX12_wound 3 3 false 0 [(0, vr 13 0), (1, vi a1), (2, vi a2)] [] μ _
    refine sBk (lo' := [(0, vr 13 0), (1, vi a1), (2, vi a2)]) (st' := [vi a2, vi a1]) (μ' := wI (wI μ 13 0 1 0) 13 0 0 0) (pc' := 12) [(.aload_n 0, 0, 0, 0, 0), (.iconst 0, 0, 0, 0, 0), (.putfield 72, 12, 1, 0, 0), (.aload_n 0, 0, 0, 0, 0), (.iconst 0, 0, 0, 0, 0), (.putfield 75, 12, 0, 0, 0), (.iload_n 1, 0, 0, 0, 0), (.iload_n 2, 0, 0, 0, 0)] (by decide +kernel) rfl rfl ?_
    refine sCsI oI rfl (avs := [vi a1, vi a2]) (rest := []) (tX12_areTurns a1 a2 (wI (wI μ 13 0 1 0) 13 0 0 0)) (by decide) (by decide +kernel) lk_12_467 ys_X12_areTurns rfl rfl (Nat.le_of_ble_eq_true rfl) (fun x1 μ2 => ?_)
    refine sIf_ne oI (off := 9) (tgt := 24) (by decide +kernel) (by decide) (fun _ => ?_) (fun _ => ?_)
    · refine sBk (lo' := [(0, vr 13 0), (1, vi a1), (2, vi a2)]) (st' := [vi a2, vi a1, vr 13 0]) (μ' := μ2) (pc' := 27) [(.aload_n 0, 0, 0, 0, 0), (.iload_n 1, 0, 0, 0, 0), (.iload_n 2, 0, 0, 0, 0)] (by decide +kernel) rfl rfl ?_
      refine sCvV oI rfl (ci := 12) (q := (13, 0)) (avs := [vi a1, vi a2]) (rest := []) (tX12_laysWound a1 a2 μ2) (by decide) (by decide +kernel) lk_12_470 yv_X12_laysWound rfl (by decide) rfl rfl rfl (Nat.le_of_ble_eq_true rfl) (fun μ4 => ?_)
      refine sBk (lo' := [(0, vr 13 0), (1, vi a1), (2, vi a2)]) (st' := [vi (rI μ4 13 0 34)]) (μ' := μ4) (pc' := 34) [(.aload_n 0, 0, 0, 0, 0), (.getfield 456, 12, 34, 0, 0)] (by decide +kernel) rfl rfl ?_
      exact sRi (by decide +kernel) (fun h => by cases h)
    · refine sBk (lo' := [(0, vr 13 0), (1, vi a1), (2, vi a2)]) (st' := [vi 5, vr 13 0]) (μ' := μ2) (pc' := 20) [(.aload_n 0, 0, 0, 0, 0), (.iconst 5, 0, 0, 5, 0)] (by decide +kernel) rfl rfl ?_
      refine sCvI oI rfl (ci := 12) (q := (13, 0)) (avs := [vi 5]) (rest := []) (tX12_refuse 5 μ2) (by decide) (by decide +kernel) lk_12_325 yv_X12_refuse rfl (by decide) rfl rfl rfl (Nat.le_of_ble_eq_true rfl) (fun x5 μ6 => ?_)
      exact sRi (by decide +kernel) (fun h => by cases h)
/-! ClockRiverModel.sure -/
def X12_sure (a1 : Int32) (a2 : Int32) (μ : sM) : Option (Int32 × sM) :=
  bI (X12_areTurns a1 a2 (wI (wI μ 13 0 1 0) 13 0 0 0)) fun x1 μ2 =>
    if x1 = 0 then
      bI (X12_refuse 5 μ2) fun x7 μ8 =>
        some (x7, μ8)
    else
      bV (X12_laysWound a1 a2 μ2) fun μ4 =>
        if (rI μ4 13 0 34) = 0 then
          bI (X12_refuse 8 μ4) fun x5 μ6 =>
            some (x5, μ6)
        else
          some ((rI μ4 13 0 35), μ4)
theorem tX12_sure (a1 : Int32) (a2 : Int32) (μ : sM) : sMt yX12_sure cX12_sure 3 (some .int) 3 [vr 13 0, vi a1, vi a2] μ (oI (X12_sure a1 a2 μ)) := by
  refine sMt_of (own := 12) (bl := false) (by decide +kernel) rfl (Nat.le_of_ble_eq_true rfl) (fun r ρ h => ?_) ?_
  · obtain ⟨q, -, hq⟩ := Option.map_eq_some_iff.mp h
    cases hq
    exact Or.inl rfl
  · unfold X12_sure
    show sOk 12 cX12_sure 3 3 false 0 [(0, vr 13 0), (1, vi a1), (2, vi a2)] [] μ _
    refine sBk (lo' := [(0, vr 13 0), (1, vi a1), (2, vi a2)]) (st' := [vi a2, vi a1]) (μ' := wI (wI μ 13 0 1 0) 13 0 0 0) (pc' := 12) [(.aload_n 0, 0, 0, 0, 0), (.iconst 0, 0, 0, 0, 0), (.putfield 72, 12, 1, 0, 0), (.aload_n 0, 0, 0, 0, 0), (.iconst 0, 0, 0, 0, 0), (.putfield 75, 12, 0, 0, 0), (.iload_n 1, 0, 0, 0, 0), (.iload_n 2, 0, 0, 0, 0)] (by decide +kernel) rfl rfl ?_
    refine sCsI oI rfl (avs := [vi a1, vi a2]) (rest := []) (tX12_areTurns a1 a2 (wI (wI μ 13 0 1 0) 13 0 0 0)) (by decide) (by decide +kernel) lk_12_467 ys_X12_areTurns rfl rfl (Nat.le_of_ble_eq_true rfl) (fun x1 μ2 => ?_)
    refine sIf_ne oI (off := 9) (tgt := 24) (by decide +kernel) (by decide) (fun _ => ?_) (fun _ => ?_)
    · refine sBk (lo' := [(0, vr 13 0), (1, vi a1), (2, vi a2)]) (st' := [vi a2, vi a1, vr 13 0]) (μ' := μ2) (pc' := 27) [(.aload_n 0, 0, 0, 0, 0), (.iload_n 1, 0, 0, 0, 0), (.iload_n 2, 0, 0, 0, 0)] (by decide +kernel) rfl rfl ?_
      refine sCvV oI rfl (ci := 12) (q := (13, 0)) (avs := [vi a1, vi a2]) (rest := []) (tX12_laysWound a1 a2 μ2) (by decide) (by decide +kernel) lk_12_470 yv_X12_laysWound rfl (by decide) rfl rfl rfl (Nat.le_of_ble_eq_true rfl) (fun μ4 => ?_)
      refine sBk (lo' := [(0, vr 13 0), (1, vi a1), (2, vi a2)]) (st' := [vi (rI μ4 13 0 34)]) (μ' := μ4) (pc' := 34) [(.aload_n 0, 0, 0, 0, 0), (.getfield 456, 12, 34, 0, 0)] (by decide +kernel) rfl rfl ?_
      refine sIf_ne oI (off := 12) (tgt := 46) (by decide +kernel) (by decide) (fun _ => ?_) (fun _ => ?_)
      · refine sBk (lo' := [(0, vr 13 0), (1, vi a1), (2, vi a2)]) (st' := [vi (rI μ4 13 0 35)]) (μ' := μ4) (pc' := 50) [(.aload_n 0, 0, 0, 0, 0), (.getfield 459, 12, 35, 0, 0)] (by decide +kernel) rfl rfl ?_
        exact sRi (by decide +kernel) (fun h => by cases h)
      · refine sBk (lo' := [(0, vr 13 0), (1, vi a1), (2, vi a2)]) (st' := [vi 8, vr 13 0]) (μ' := μ4) (pc' := 40) [(.aload_n 0, 0, 0, 0, 0), (.bipush 8, 0, 0, 8, 0)] (by decide +kernel) rfl rfl ?_
        refine sCvI oI rfl (ci := 12) (q := (13, 0)) (avs := [vi 8]) (rest := []) (tX12_refuse 8 μ4) (by decide) (by decide +kernel) lk_12_325 yv_X12_refuse rfl (by decide) rfl rfl rfl (Nat.le_of_ble_eq_true rfl) (fun x5 μ6 => ?_)
        refine sGt (off := 7) (tgt := 50) (by decide +kernel) (by decide) ?_
        exact sRi (by decide +kernel) (fun h => by cases h)
    · refine sBk (lo' := [(0, vr 13 0), (1, vi a1), (2, vi a2)]) (st' := [vi 5, vr 13 0]) (μ' := μ2) (pc' := 20) [(.aload_n 0, 0, 0, 0, 0), (.iconst 5, 0, 0, 5, 0)] (by decide +kernel) rfl rfl ?_
      refine sCvI oI rfl (ci := 12) (q := (13, 0)) (avs := [vi 5]) (rest := []) (tX12_refuse 5 μ2) (by decide) (by decide +kernel) lk_12_325 yv_X12_refuse rfl (by decide) rfl rfl rfl (Nat.le_of_ble_eq_true rfl) (fun x7 μ8 => ?_)
      exact sRi (by decide +kernel) (fun h => by cases h)
/-! ClockRiverModel.cheapest -/
def X12_cheapest (a1 : Int32) (a2 : Int32) (μ : sM) : Option (Int32 × sM) :=
  bI (X12_areTurns a1 a2 (wI (wI μ 13 0 1 0) 13 0 0 0)) fun x1 μ2 =>
    if x1 = 0 then
      bI (X12_refuse 5 μ2) fun x7 μ8 =>
        some (x7, μ8)
    else
      bV (X12_laysWound a1 a2 μ2) fun μ4 =>
        if (rI μ4 13 0 34) = 0 then
          bI (X12_refuse 8 μ4) fun x5 μ6 =>
            some (x5, μ6)
        else
          some ((rI μ4 13 0 36), μ4)
theorem tX12_cheapest (a1 : Int32) (a2 : Int32) (μ : sM) : sMt yX12_cheapest cX12_cheapest 3 (some .int) 3 [vr 13 0, vi a1, vi a2] μ (oI (X12_cheapest a1 a2 μ)) := by
  refine sMt_of (own := 12) (bl := false) (by decide +kernel) rfl (Nat.le_of_ble_eq_true rfl) (fun r ρ h => ?_) ?_
  · obtain ⟨q, -, hq⟩ := Option.map_eq_some_iff.mp h
    cases hq
    exact Or.inl rfl
  · unfold X12_cheapest
    show sOk 12 cX12_cheapest 3 3 false 0 [(0, vr 13 0), (1, vi a1), (2, vi a2)] [] μ _
    refine sBk (lo' := [(0, vr 13 0), (1, vi a1), (2, vi a2)]) (st' := [vi a2, vi a1]) (μ' := wI (wI μ 13 0 1 0) 13 0 0 0) (pc' := 12) [(.aload_n 0, 0, 0, 0, 0), (.iconst 0, 0, 0, 0, 0), (.putfield 72, 12, 1, 0, 0), (.aload_n 0, 0, 0, 0, 0), (.iconst 0, 0, 0, 0, 0), (.putfield 75, 12, 0, 0, 0), (.iload_n 1, 0, 0, 0, 0), (.iload_n 2, 0, 0, 0, 0)] (by decide +kernel) rfl rfl ?_
    refine sCsI oI rfl (avs := [vi a1, vi a2]) (rest := []) (tX12_areTurns a1 a2 (wI (wI μ 13 0 1 0) 13 0 0 0)) (by decide) (by decide +kernel) lk_12_467 ys_X12_areTurns rfl rfl (Nat.le_of_ble_eq_true rfl) (fun x1 μ2 => ?_)
    refine sIf_ne oI (off := 9) (tgt := 24) (by decide +kernel) (by decide) (fun _ => ?_) (fun _ => ?_)
    · refine sBk (lo' := [(0, vr 13 0), (1, vi a1), (2, vi a2)]) (st' := [vi a2, vi a1, vr 13 0]) (μ' := μ2) (pc' := 27) [(.aload_n 0, 0, 0, 0, 0), (.iload_n 1, 0, 0, 0, 0), (.iload_n 2, 0, 0, 0, 0)] (by decide +kernel) rfl rfl ?_
      refine sCvV oI rfl (ci := 12) (q := (13, 0)) (avs := [vi a1, vi a2]) (rest := []) (tX12_laysWound a1 a2 μ2) (by decide) (by decide +kernel) lk_12_470 yv_X12_laysWound rfl (by decide) rfl rfl rfl (Nat.le_of_ble_eq_true rfl) (fun μ4 => ?_)
      refine sBk (lo' := [(0, vr 13 0), (1, vi a1), (2, vi a2)]) (st' := [vi (rI μ4 13 0 34)]) (μ' := μ4) (pc' := 34) [(.aload_n 0, 0, 0, 0, 0), (.getfield 456, 12, 34, 0, 0)] (by decide +kernel) rfl rfl ?_
      refine sIf_ne oI (off := 12) (tgt := 46) (by decide +kernel) (by decide) (fun _ => ?_) (fun _ => ?_)
      · refine sBk (lo' := [(0, vr 13 0), (1, vi a1), (2, vi a2)]) (st' := [vi (rI μ4 13 0 36)]) (μ' := μ4) (pc' := 50) [(.aload_n 0, 0, 0, 0, 0), (.getfield 462, 12, 36, 0, 0)] (by decide +kernel) rfl rfl ?_
        exact sRi (by decide +kernel) (fun h => by cases h)
      · refine sBk (lo' := [(0, vr 13 0), (1, vi a1), (2, vi a2)]) (st' := [vi 8, vr 13 0]) (μ' := μ4) (pc' := 40) [(.aload_n 0, 0, 0, 0, 0), (.bipush 8, 0, 0, 8, 0)] (by decide +kernel) rfl rfl ?_
        refine sCvI oI rfl (ci := 12) (q := (13, 0)) (avs := [vi 8]) (rest := []) (tX12_refuse 8 μ4) (by decide) (by decide +kernel) lk_12_325 yv_X12_refuse rfl (by decide) rfl rfl rfl (Nat.le_of_ble_eq_true rfl) (fun x5 μ6 => ?_)
        refine sGt (off := 7) (tgt := 50) (by decide +kernel) (by decide) ?_
        exact sRi (by decide +kernel) (fun h => by cases h)
    · refine sBk (lo' := [(0, vr 13 0), (1, vi a1), (2, vi a2)]) (st' := [vi 5, vr 13 0]) (μ' := μ2) (pc' := 20) [(.aload_n 0, 0, 0, 0, 0), (.iconst 5, 0, 0, 5, 0)] (by decide +kernel) rfl rfl ?_
      refine sCvI oI rfl (ci := 12) (q := (13, 0)) (avs := [vi 5]) (rest := []) (tX12_refuse 5 μ2) (by decide) (by decide +kernel) lk_12_325 yv_X12_refuse rfl (by decide) rfl rfl rfl (Nat.le_of_ble_eq_true rfl) (fun x7 μ8 => ?_)
      exact sRi (by decide +kernel) (fun h => by cases h)
/-! ClockRiverModel.whyNoGame -/
def X12_whyNoGame (a1 : Int32) (a2 : Int32) (a3 : Int32) (a4 : Int32) (μ : sM) : Option (Int32 × sM) :=
  bI (X12_isMillAt a1 μ) fun x1 μ2 =>
    if x1 = 0 then
      some (2, μ2)
    else
      bI (X12_isMillAt a2 μ2) fun x3 μ4 =>
        if x3 = 0 then
          some (2, μ4)
        else
          if a1 = a2 then
            some (5, μ4)
          else
            bI (X12_isIn (Int32.toInt64 a3) (Int32.toInt64 a4) 4 μ4) fun x5 μ6 =>
              if x5 = 0 then
                some (5, μ6)
              else
                some (0, μ6)
theorem tX12_whyNoGame (a1 : Int32) (a2 : Int32) (a3 : Int32) (a4 : Int32) (μ : sM) : sMt yX12_whyNoGame cX12_whyNoGame 5 (some .int) 3 [vr 13 0, vi a1, vi a2, vi a3, vi a4] μ (oI (X12_whyNoGame a1 a2 a3 a4 μ)) := by
  refine sMt_of (own := 12) (bl := false) (by decide +kernel) rfl (Nat.le_of_ble_eq_true rfl) (fun r ρ h => ?_) ?_
  · obtain ⟨q, -, hq⟩ := Option.map_eq_some_iff.mp h
    cases hq
    exact Or.inl rfl
  · unfold X12_whyNoGame
    show sOk 12 cX12_whyNoGame 5 3 false 0 [(0, vr 13 0), (1, vi a1), (2, vi a2), (3, vi a3), (4, vi a4)] [] μ _
    refine sBk (lo' := [(0, vr 13 0), (1, vi a1), (2, vi a2), (3, vi a3), (4, vi a4)]) (st' := [vi a1, vr 13 0]) (μ' := μ) (pc' := 2) [(.aload_n 0, 0, 0, 0, 0), (.iload_n 1, 0, 0, 0, 0)] (by decide +kernel) rfl rfl ?_
    refine sCvI oI rfl (ci := 12) (q := (13, 0)) (avs := [vi a1]) (rest := []) (tX12_isMillAt a1 μ) (by decide) (by decide +kernel) lk_12_350 yv_X12_isMillAt rfl (by decide) rfl rfl rfl (Nat.le_of_ble_eq_true rfl) (fun x1 μ2 => ?_)
    refine sIf_eq oI (off := 11) (tgt := 16) (by decide +kernel) (by decide) (fun _ => ?_) (fun _ => ?_)
    · refine sBk (lo' := [(0, vr 13 0), (1, vi a1), (2, vi a2), (3, vi a3), (4, vi a4)]) (st' := [vi 2]) (μ' := μ2) (pc' := 17) [(.iconst 2, 0, 0, 2, 0)] (by decide +kernel) rfl rfl ?_
      exact sRi (by decide +kernel) (fun h => by cases h)
    · refine sBk (lo' := [(0, vr 13 0), (1, vi a1), (2, vi a2), (3, vi a3), (4, vi a4)]) (st' := [vi a2, vr 13 0]) (μ' := μ2) (pc' := 10) [(.aload_n 0, 0, 0, 0, 0), (.iload_n 2, 0, 0, 0, 0)] (by decide +kernel) rfl rfl ?_
      refine sCvI oI rfl (ci := 12) (q := (13, 0)) (avs := [vi a2]) (rest := []) (tX12_isMillAt a2 μ2) (by decide) (by decide +kernel) lk_12_350 yv_X12_isMillAt rfl (by decide) rfl rfl rfl (Nat.le_of_ble_eq_true rfl) (fun x3 μ4 => ?_)
      refine sIf_ne oI (off := 5) (tgt := 18) (by decide +kernel) (by decide) (fun _ => ?_) (fun _ => ?_)
      · refine sBk (lo' := [(0, vr 13 0), (1, vi a1), (2, vi a2), (3, vi a3), (4, vi a4)]) (st' := [vi a2, vi a1]) (μ' := μ4) (pc' := 20) [(.iload_n 1, 0, 0, 0, 0), (.iload_n 2, 0, 0, 0, 0)] (by decide +kernel) rfl rfl ?_
        refine sIc_eq oI (off := 21) (tgt := 41) (by decide +kernel) (by decide) (fun _ => ?_) (fun _ => ?_)
        · refine sBk (lo' := [(0, vr 13 0), (1, vi a1), (2, vi a2), (3, vi a3), (4, vi a4)]) (st' := [vi 5]) (μ' := μ4) (pc' := 42) [(.iconst 5, 0, 0, 5, 0)] (by decide +kernel) rfl rfl ?_
          exact sRi (by decide +kernel) (fun h => by cases h)
        · refine sBk (lo' := [(0, vr 13 0), (1, vi a1), (2, vi a2), (3, vi a3), (4, vi a4)]) (st' := [vl 4, vl (Int32.toInt64 a4), vl (Int32.toInt64 a3)]) (μ' := μ4) (pc' := 31) [(.iload_n 3, 0, 0, 0, 0), (.i2l, 0, 0, 0, 0), (.iload 4, 0, 0, 0, 0), (.i2l, 0, 0, 0, 0), (.ldc2_w 342, 0, 0, 0, 4)] (by decide +kernel) rfl rfl ?_
          refine sCsI oI rfl (avs := [vl (Int32.toInt64 a3), vl (Int32.toInt64 a4), vl 4]) (rest := []) (tX12_isIn (Int32.toInt64 a3) (Int32.toInt64 a4) 4 μ4) (by decide) (by decide +kernel) lk_12_107 ys_X12_isIn rfl rfl (Nat.le_of_ble_eq_true rfl) (fun x5 μ6 => ?_)
          refine sIf_eq oI (off := 7) (tgt := 41) (by decide +kernel) (by decide) (fun _ => ?_) (fun _ => ?_)
          · refine sBk (lo' := [(0, vr 13 0), (1, vi a1), (2, vi a2), (3, vi a3), (4, vi a4)]) (st' := [vi 5]) (μ' := μ6) (pc' := 42) [(.iconst 5, 0, 0, 5, 0)] (by decide +kernel) rfl rfl ?_
            exact sRi (by decide +kernel) (fun h => by cases h)
          · refine sBk (lo' := [(0, vr 13 0), (1, vi a1), (2, vi a2), (3, vi a3), (4, vi a4)]) (st' := [vi 0]) (μ' := μ6) (pc' := 38) [(.iconst 0, 0, 0, 0, 0)] (by decide +kernel) rfl rfl ?_
            refine sGt (off := 4) (tgt := 42) (by decide +kernel) (by decide) ?_
            exact sRi (by decide +kernel) (fun h => by cases h)
      · refine sBk (lo' := [(0, vr 13 0), (1, vi a1), (2, vi a2), (3, vi a3), (4, vi a4)]) (st' := [vi 2]) (μ' := μ4) (pc' := 17) [(.iconst 2, 0, 0, 2, 0)] (by decide +kernel) rfl rfl ?_
        exact sRi (by decide +kernel) (fun h => by cases h)
/-! ClockRiverModel.plays -/
def X12_plays_J180 (rec : Int32 → Int32 → Int32 → Int32 → sM → Option (Int32 × sM)) (k73 : Int32 → Int32 → Int32 → Int32 → Int32 → Int32 → Int32 → Int32 → Int32 → sM → Option (Int32 × sM)) (v1 : Int32) (v2 : Int32) (v3 : Int32) (v4 : Int32) (v5 : Int32) (v6 : Int32) (v7 : Int32) (v8 : Int32) (v9 : Int32) (μ : sM) : Option (Int32 × sM) :=
  k73 v1 v2 v3 v4 v5 v6 v7 v8 (v9 + 1) μ
theorem X12_plays_J180_ok {rec : Int32 → Int32 → Int32 → Int32 → sM → Option (Int32 × sM)} {d0 : Nat} (hd : 2 ≤ d0) (hrec : ∀ (a1 : Int32) (a2 : Int32) (a3 : Int32) (a4 : Int32) (μ : sM), sMt yX12_plays cX12_plays 11 (some .int) d0 [vr 13 0, vi a1, vi a2, vi a3, vi a4] μ (oI (rec a1 a2 a3 a4 μ))) {k73 : Int32 → Int32 → Int32 → Int32 → Int32 → Int32 → Int32 → Int32 → Int32 → sM → Option (Int32 × sM)} (hk73 : ∀ (v1 : Int32) (v2 : Int32) (v3 : Int32) (v4 : Int32) (v5 : Int32) (v6 : Int32) (v7 : Int32) (v8 : Int32) (v9 : Int32) (μ : sM), sOk 12 cX12_plays 11 (d0 + 1) false 73 [(0, vr 13 0), (1, vi v1), (2, vi v2), (3, vi v3), (4, vi v4), (5, vi v5), (6, vi v6), (7, vi v7), (8, vi v8), (9, vi v9)] [] μ (oI (k73 v1 v2 v3 v4 v5 v6 v7 v8 v9 μ))) (v1 : Int32) (v2 : Int32) (v3 : Int32) (v4 : Int32) (v5 : Int32) (v6 : Int32) (v7 : Int32) (v8 : Int32) (v9 : Int32) (μ : sM) : sOk 12 cX12_plays 11 (d0 + 1) false 180 [(0, vr 13 0), (1, vi v1), (2, vi v2), (3, vi v3), (4, vi v4), (5, vi v5), (6, vi v6), (7, vi v7), (8, vi v8), (9, vi v9)] [] μ (oI (X12_plays_J180 rec k73 v1 v2 v3 v4 v5 v6 v7 v8 v9 μ)) := by
  unfold X12_plays_J180
  refine sBk (lo' := [(9, vi (v9 + 1)), (0, vr 13 0), (1, vi v1), (2, vi v2), (3, vi v3), (4, vi v4), (5, vi v5), (6, vi v6), (7, vi v7), (8, vi v8)]) (st' := []) (μ' := μ) (pc' := 183) [(.iinc 9 1, 0, 0, 1, 0)] (by decide +kernel) rfl rfl ?_
  refine sGt (off := (-110)) (tgt := 73) (by decide +kernel) (by decide) ?_
  refine sWk (lo' := [(0, vr 13 0), (1, vi v1), (2, vi v2), (3, vi v3), (4, vi v4), (5, vi v5), (6, vi v6), (7, vi v7), (8, vi v8), (9, vi (v9 + 1))]) [1, 2, 3, 4, 5, 6, 7, 8, 9, 0] rfl ?_
  exact hk73 v1 v2 v3 v4 v5 v6 v7 v8 (v9 + 1) μ
def X12_plays_J172 (rec : Int32 → Int32 → Int32 → Int32 → sM → Option (Int32 × sM)) (k73 : Int32 → Int32 → Int32 → Int32 → Int32 → Int32 → Int32 → Int32 → Int32 → sM → Option (Int32 × sM)) (v1 : Int32) (v2 : Int32) (v3 : Int32) (v4 : Int32) (v5 : Int32) (v6 : Int32) (v9 : Int32) (v10 : Int32) (μ : sM) : Option (Int32 × sM) :=
  X12_plays_J180 rec k73 v1 v2 v3 v4 v5 v6 v10 v9 v9 μ
theorem X12_plays_J172_ok {rec : Int32 → Int32 → Int32 → Int32 → sM → Option (Int32 × sM)} {d0 : Nat} (hd : 2 ≤ d0) (hrec : ∀ (a1 : Int32) (a2 : Int32) (a3 : Int32) (a4 : Int32) (μ : sM), sMt yX12_plays cX12_plays 11 (some .int) d0 [vr 13 0, vi a1, vi a2, vi a3, vi a4] μ (oI (rec a1 a2 a3 a4 μ))) {k73 : Int32 → Int32 → Int32 → Int32 → Int32 → Int32 → Int32 → Int32 → Int32 → sM → Option (Int32 × sM)} (hk73 : ∀ (v1 : Int32) (v2 : Int32) (v3 : Int32) (v4 : Int32) (v5 : Int32) (v6 : Int32) (v7 : Int32) (v8 : Int32) (v9 : Int32) (μ : sM), sOk 12 cX12_plays 11 (d0 + 1) false 73 [(0, vr 13 0), (1, vi v1), (2, vi v2), (3, vi v3), (4, vi v4), (5, vi v5), (6, vi v6), (7, vi v7), (8, vi v8), (9, vi v9)] [] μ (oI (k73 v1 v2 v3 v4 v5 v6 v7 v8 v9 μ))) (v1 : Int32) (v2 : Int32) (v3 : Int32) (v4 : Int32) (v5 : Int32) (v6 : Int32) (v9 : Int32) (v10 : Int32) (μ : sM) : sOk 12 cX12_plays 11 (d0 + 1) false 172 [(0, vr 13 0), (1, vi v1), (2, vi v2), (3, vi v3), (4, vi v4), (5, vi v5), (6, vi v6), (9, vi v9), (10, vi v10)] [] μ (oI (X12_plays_J172 rec k73 v1 v2 v3 v4 v5 v6 v9 v10 μ)) := by
  unfold X12_plays_J172
  refine sBk (lo' := [(8, vi v9), (7, vi v10), (0, vr 13 0), (1, vi v1), (2, vi v2), (3, vi v3), (4, vi v4), (5, vi v5), (6, vi v6), (9, vi v9), (10, vi v10)]) (st' := []) (μ' := μ) (pc' := 180) [(.iload 10, 0, 0, 0, 0), (.istore 7, 0, 0, 0, 0), (.iload 9, 0, 0, 0, 0), (.istore 8, 0, 0, 0, 0)] (by decide +kernel) rfl rfl ?_
  refine sWk (lo' := [(0, vr 13 0), (1, vi v1), (2, vi v2), (3, vi v3), (4, vi v4), (5, vi v5), (6, vi v6), (7, vi v10), (8, vi v9), (9, vi v9)]) [2, 3, 4, 5, 6, 7, 8, 1, 0, 9] rfl ?_
  exact X12_plays_J180_ok hd hrec hk73 v1 v2 v3 v4 v5 v6 v10 v9 v9 μ
def X12_plays_J118 (rec : Int32 → Int32 → Int32 → Int32 → sM → Option (Int32 × sM)) (k73 : Int32 → Int32 → Int32 → Int32 → Int32 → Int32 → Int32 → Int32 → Int32 → sM → Option (Int32 × sM)) (v1 : Int32) (v2 : Int32) (v3 : Int32) (v4 : Int32) (v5 : Int32) (v6 : Int32) (v7 : Int32) (v8 : Int32) (v9 : Int32) (s0 : Int32) (s1 : Int32) (μ : sM) : Option (Int32 × sM) :=
  if inb s1 1740 = true then
    bI (X12_goesHour (wI μ 61 0 (ix s1) s0)) fun x1 μ2 =>
      bI (rec v1 v2 (v3 + 1) v4 μ2) fun x3 μ4 =>
        bV (X12_takesTurn v3 μ4) fun μ6 =>
          if v8 < 0 then
            X12_plays_J172 rec k73 v1 v2 v3 v4 v5 v6 v9 x3 μ6
          else
            if v5 = 0 then
              if x3 < v7 then
                X12_plays_J172 rec k73 v1 v2 v3 v4 v5 v6 v9 x3 μ6
              else
                X12_plays_J180 rec k73 v1 v2 v3 v4 v5 v6 v7 v8 v9 μ6
            else
              if v7 < x3 then
                X12_plays_J172 rec k73 v1 v2 v3 v4 v5 v6 v9 x3 μ6
              else
                X12_plays_J180 rec k73 v1 v2 v3 v4 v5 v6 v7 v8 v9 μ6
  else none
theorem X12_plays_J118_ok {rec : Int32 → Int32 → Int32 → Int32 → sM → Option (Int32 × sM)} {d0 : Nat} (hd : 2 ≤ d0) (hrec : ∀ (a1 : Int32) (a2 : Int32) (a3 : Int32) (a4 : Int32) (μ : sM), sMt yX12_plays cX12_plays 11 (some .int) d0 [vr 13 0, vi a1, vi a2, vi a3, vi a4] μ (oI (rec a1 a2 a3 a4 μ))) {k73 : Int32 → Int32 → Int32 → Int32 → Int32 → Int32 → Int32 → Int32 → Int32 → sM → Option (Int32 × sM)} (hk73 : ∀ (v1 : Int32) (v2 : Int32) (v3 : Int32) (v4 : Int32) (v5 : Int32) (v6 : Int32) (v7 : Int32) (v8 : Int32) (v9 : Int32) (μ : sM), sOk 12 cX12_plays 11 (d0 + 1) false 73 [(0, vr 13 0), (1, vi v1), (2, vi v2), (3, vi v3), (4, vi v4), (5, vi v5), (6, vi v6), (7, vi v7), (8, vi v8), (9, vi v9)] [] μ (oI (k73 v1 v2 v3 v4 v5 v6 v7 v8 v9 μ))) (v1 : Int32) (v2 : Int32) (v3 : Int32) (v4 : Int32) (v5 : Int32) (v6 : Int32) (v7 : Int32) (v8 : Int32) (v9 : Int32) (s0 : Int32) (s1 : Int32) (μ : sM) : sOk 12 cX12_plays 11 (d0 + 1) false 118 [(0, vr 13 0), (1, vi v1), (2, vi v2), (3, vi v3), (4, vi v4), (5, vi v5), (6, vi v6), (7, vi v7), (8, vi v8), (9, vi v9)] [vi s0, vi s1, vr 61 0] μ (oI (X12_plays_J118 rec k73 v1 v2 v3 v4 v5 v6 v7 v8 v9 s0 s1 μ)) := by
  unfold X12_plays_J118
  refine sS_ias oI rfl (n := 1740) (j := (ix s1)) (by decide +kernel) rfl rfl rfl (fun _ => ?_)
  refine sBk (lo' := [(0, vr 13 0), (1, vi v1), (2, vi v2), (3, vi v3), (4, vi v4), (5, vi v5), (6, vi v6), (7, vi v7), (8, vi v8), (9, vi v9)]) (st' := [vr 13 0]) (μ' := wI μ 61 0 (ix s1) s0) (pc' := 120) [(.aload_n 0, 0, 0, 0, 0)] (by decide +kernel) rfl rfl ?_
  refine sCvI oI rfl (ci := 12) (q := (13, 0)) (avs := []) (rest := []) (tX12_goesHour (wI μ 61 0 (ix s1) s0)) (by omega) (by decide +kernel) lk_12_382 yv_X12_goesHour rfl (by decide) rfl rfl rfl (Nat.le_of_ble_eq_true rfl) (fun x1 μ2 => ?_)
  refine sBk (lo' := [(0, vr 13 0), (1, vi v1), (2, vi v2), (3, vi v3), (4, vi v4), (5, vi v5), (6, vi v6), (7, vi v7), (8, vi v8), (9, vi v9)]) (st' := [vi v4, vi (v3 + 1), vi v2, vi v1, vr 13 0]) (μ' := μ2) (pc' := 132) [(.pop, 0, 0, 0, 0), (.aload_n 0, 0, 0, 0, 0), (.iload_n 1, 0, 0, 0, 0), (.iload_n 2, 0, 0, 0, 0), (.iload_n 3, 0, 0, 0, 0), (.iconst 1, 0, 0, 1, 0), (.iadd, 0, 0, 0, 0), (.iload 4, 0, 0, 0, 0)] (by decide +kernel) rfl rfl ?_
  refine sCvI oI rfl (ci := 12) (q := (13, 0)) (avs := [vi v1, vi v2, vi (v3 + 1), vi v4]) (rest := []) (hrec v1 v2 (v3 + 1) v4 μ2) (by omega) (by decide +kernel) lk_12_473 yv_X12_plays rfl (by decide) rfl rfl rfl (Nat.le_of_ble_eq_true rfl) (fun x3 μ4 => ?_)
  refine sBk (lo' := [(10, vi x3), (0, vr 13 0), (1, vi v1), (2, vi v2), (3, vi v3), (4, vi v4), (5, vi v5), (6, vi v6), (7, vi v7), (8, vi v8), (9, vi v9)]) (st' := [vi v3, vr 13 0]) (μ' := μ4) (pc' := 139) [(.istore 10, 0, 0, 0, 0), (.aload_n 0, 0, 0, 0, 0), (.iload_n 3, 0, 0, 0, 0)] (by decide +kernel) rfl rfl ?_
  refine sCvV oI rfl (ci := 12) (q := (13, 0)) (avs := [vi v3]) (rest := []) (tX12_takesTurn v3 μ4) (by omega) (by decide +kernel) lk_12_447 yv_X12_takesTurn rfl (by decide) rfl rfl rfl (Nat.le_of_ble_eq_true rfl) (fun μ6 => ?_)
  refine sBk (lo' := [(10, vi x3), (0, vr 13 0), (1, vi v1), (2, vi v2), (3, vi v3), (4, vi v4), (5, vi v5), (6, vi v6), (7, vi v7), (8, vi v8), (9, vi v9)]) (st' := [vi v8]) (μ' := μ6) (pc' := 144) [(.iload 8, 0, 0, 0, 0)] (by decide +kernel) rfl rfl ?_
  refine sIf_lt oI (off := 28) (tgt := 172) (by decide +kernel) (by decide) (fun _ => ?_) (fun _ => ?_)
  · refine sWk (lo' := [(0, vr 13 0), (1, vi v1), (2, vi v2), (3, vi v3), (4, vi v4), (5, vi v5), (6, vi v6), (9, vi v9), (10, vi x3)]) [1, 2, 3, 4, 5, 6, 7, 10, 0] rfl ?_
    exact X12_plays_J172_ok hd hrec hk73 v1 v2 v3 v4 v5 v6 v9 x3 μ6
  · refine sBk (lo' := [(10, vi x3), (0, vr 13 0), (1, vi v1), (2, vi v2), (3, vi v3), (4, vi v4), (5, vi v5), (6, vi v6), (7, vi v7), (8, vi v8), (9, vi v9)]) (st' := [vi v5]) (μ' := μ6) (pc' := 149) [(.iload 5, 0, 0, 0, 0)] (by decide +kernel) rfl rfl ?_
    refine sIf_eq oI (off := 13) (tgt := 162) (by decide +kernel) (by decide) (fun _ => ?_) (fun _ => ?_)
    · refine sBk (lo' := [(10, vi x3), (0, vr 13 0), (1, vi v1), (2, vi v2), (3, vi v3), (4, vi v4), (5, vi v5), (6, vi v6), (7, vi v7), (8, vi v8), (9, vi v9)]) (st' := [vi v7, vi x3]) (μ' := μ6) (pc' := 166) [(.iload 10, 0, 0, 0, 0), (.iload 7, 0, 0, 0, 0)] (by decide +kernel) rfl rfl ?_
      refine sIc_lt oI (off := 6) (tgt := 172) (by decide +kernel) (by decide) (fun _ => ?_) (fun _ => ?_)
      · refine sWk (lo' := [(0, vr 13 0), (1, vi v1), (2, vi v2), (3, vi v3), (4, vi v4), (5, vi v5), (6, vi v6), (9, vi v9), (10, vi x3)]) [1, 2, 3, 4, 5, 6, 7, 10, 0] rfl ?_
        exact X12_plays_J172_ok hd hrec hk73 v1 v2 v3 v4 v5 v6 v9 x3 μ6
      · refine sGt (off := 11) (tgt := 180) (by decide +kernel) (by decide) ?_
        refine sWk (lo' := [(0, vr 13 0), (1, vi v1), (2, vi v2), (3, vi v3), (4, vi v4), (5, vi v5), (6, vi v6), (7, vi v7), (8, vi v8), (9, vi v9)]) [1, 2, 3, 4, 5, 6, 7, 8, 9, 10] rfl ?_
        exact X12_plays_J180_ok hd hrec hk73 v1 v2 v3 v4 v5 v6 v7 v8 v9 μ6
    · refine sBk (lo' := [(10, vi x3), (0, vr 13 0), (1, vi v1), (2, vi v2), (3, vi v3), (4, vi v4), (5, vi v5), (6, vi v6), (7, vi v7), (8, vi v8), (9, vi v9)]) (st' := [vi v7, vi x3]) (μ' := μ6) (pc' := 156) [(.iload 10, 0, 0, 0, 0), (.iload 7, 0, 0, 0, 0)] (by decide +kernel) rfl rfl ?_
      refine sIc_gt oI (off := 16) (tgt := 172) (by decide +kernel) (by decide) (fun _ => ?_) (fun _ => ?_)
      · refine sWk (lo' := [(0, vr 13 0), (1, vi v1), (2, vi v2), (3, vi v3), (4, vi v4), (5, vi v5), (6, vi v6), (9, vi v9), (10, vi x3)]) [1, 2, 3, 4, 5, 6, 7, 10, 0] rfl ?_
        exact X12_plays_J172_ok hd hrec hk73 v1 v2 v3 v4 v5 v6 v9 x3 μ6
      · refine sGt (off := 21) (tgt := 180) (by decide +kernel) (by decide) ?_
        refine sWk (lo' := [(0, vr 13 0), (1, vi v1), (2, vi v2), (3, vi v3), (4, vi v4), (5, vi v5), (6, vi v6), (7, vi v7), (8, vi v8), (9, vi v9)]) [1, 2, 3, 4, 5, 6, 7, 8, 9, 10] rfl ?_
        exact X12_plays_J180_ok hd hrec hk73 v1 v2 v3 v4 v5 v6 v7 v8 v9 μ6
def X12_plays_L73 (rec : Int32 → Int32 → Int32 → Int32 → sM → Option (Int32 × sM)) : Nat → Int32 → Int32 → Int32 → Int32 → Int32 → Int32 → Int32 → Int32 → Int32 → sM → Option (Int32 × sM)
  | 0, _, _, _, _, _, _, _, _, _, _ => none
  | n + 1, v1, v2, v3, v4, v5, v6, v7, v8, v9, μ =>
    if 3 ≤ v9 then
      if v3 = 0 then
        some (v7, wI μ 13 0 37 v8)
      else
        some (v7, μ)
    else
      if v9 = 0 then
        X12_plays_J118 rec (X12_plays_L73 rec n) v1 v2 v3 v4 v5 v6 v7 v8 v9 99 (22 + v6) μ
      else
        if v9 = 1 then
          X12_plays_J118 rec (X12_plays_L73 rec n) v1 v2 v3 v4 v5 v6 v7 v8 v9 0 (22 + v6) μ
        else
          if inb (22 + v6) 1740 = true then
            X12_plays_J118 rec (X12_plays_L73 rec n) v1 v2 v3 v4 v5 v6 v7 v8 v9 (rI μ 61 0 (ix (22 + v6))) (22 + v6) μ
          else none
theorem X12_plays_L73_ok {rec : Int32 → Int32 → Int32 → Int32 → sM → Option (Int32 × sM)} {d0 : Nat} (hd : 2 ≤ d0) (hrec : ∀ (a1 : Int32) (a2 : Int32) (a3 : Int32) (a4 : Int32) (μ : sM), sMt yX12_plays cX12_plays 11 (some .int) d0 [vr 13 0, vi a1, vi a2, vi a3, vi a4] μ (oI (rec a1 a2 a3 a4 μ))) : ∀ (n : Nat) (v1 : Int32) (v2 : Int32) (v3 : Int32) (v4 : Int32) (v5 : Int32) (v6 : Int32) (v7 : Int32) (v8 : Int32) (v9 : Int32) (μ : sM), sOk 12 cX12_plays 11 (d0 + 1) false 73 [(0, vr 13 0), (1, vi v1), (2, vi v2), (3, vi v3), (4, vi v4), (5, vi v5), (6, vi v6), (7, vi v7), (8, vi v8), (9, vi v9)] [] μ (oI (X12_plays_L73 rec n v1 v2 v3 v4 v5 v6 v7 v8 v9 μ)) := by
  intro n
  induction n with
  | zero =>
    intros
    exact sNo
  | succ n ih =>
    intro v1 v2 v3 v4 v5 v6 v7 v8 v9 μ
    unfold X12_plays_L73
    refine sBk (lo' := [(0, vr 13 0), (1, vi v1), (2, vi v2), (3, vi v3), (4, vi v4), (5, vi v5), (6, vi v6), (7, vi v7), (8, vi v8), (9, vi v9)]) (st' := [vi 3, vi v9]) (μ' := μ) (pc' := 76) [(.iload 9, 0, 0, 0, 0), (.iconst 3, 0, 0, 3, 0)] (by decide +kernel) rfl rfl ?_
    refine sIc_ge oI (off := 110) (tgt := 186) (by decide +kernel) (by decide) (fun _ => ?_) (fun _ => ?_)
    · refine sBk (lo' := [(0, vr 13 0), (1, vi v1), (2, vi v2), (3, vi v3), (4, vi v4), (5, vi v5), (6, vi v6), (7, vi v7), (8, vi v8), (9, vi v9)]) (st' := [vi v3]) (μ' := μ) (pc' := 187) [(.iload_n 3, 0, 0, 0, 0)] (by decide +kernel) rfl rfl ?_
      refine sIf_ne oI (off := 9) (tgt := 196) (by decide +kernel) (by decide) (fun _ => ?_) (fun _ => ?_)
      · refine sBk (lo' := [(0, vr 13 0), (1, vi v1), (2, vi v2), (3, vi v3), (4, vi v4), (5, vi v5), (6, vi v6), (7, vi v7), (8, vi v8), (9, vi v9)]) (st' := [vi v7]) (μ' := μ) (pc' := 198) [(.iload 7, 0, 0, 0, 0)] (by decide +kernel) rfl rfl ?_
        exact sRi (by decide +kernel) (fun h => by cases h)
      · refine sBk (lo' := [(0, vr 13 0), (1, vi v1), (2, vi v2), (3, vi v3), (4, vi v4), (5, vi v5), (6, vi v6), (7, vi v7), (8, vi v8), (9, vi v9)]) (st' := [vi v7]) (μ' := wI μ 13 0 37 v8) (pc' := 198) [(.aload_n 0, 0, 0, 0, 0), (.iload 8, 0, 0, 0, 0), (.putfield 477, 12, 37, 0, 0), (.iload 7, 0, 0, 0, 0)] (by decide +kernel) rfl rfl ?_
        exact sRi (by decide +kernel) (fun h => by cases h)
    · refine sBk (lo' := [(0, vr 13 0), (1, vi v1), (2, vi v2), (3, vi v3), (4, vi v4), (5, vi v5), (6, vi v6), (7, vi v7), (8, vi v8), (9, vi v9)]) (st' := [vi v9, vi (22 + v6), vr 61 0]) (μ' := μ) (pc' := 90) [(.aload_n 0, 0, 0, 0, 0), (.getfield 35, 12, 20, 0, 0), (.bipush 22, 0, 0, 22, 0), (.iload 6, 0, 0, 0, 0), (.iadd, 0, 0, 0, 0), (.iload 9, 0, 0, 0, 0)] (by decide +kernel) rfl rfl ?_
      refine sIf_ne oI (off := 8) (tgt := 98) (by decide +kernel) (by decide) (fun _ => ?_) (fun _ => ?_)
      · refine sBk (lo' := [(0, vr 13 0), (1, vi v1), (2, vi v2), (3, vi v3), (4, vi v4), (5, vi v5), (6, vi v6), (7, vi v7), (8, vi v8), (9, vi v9)]) (st' := [vi 1, vi v9, vi (22 + v6), vr 61 0]) (μ' := μ) (pc' := 101) [(.iload 9, 0, 0, 0, 0), (.iconst 1, 0, 0, 1, 0)] (by decide +kernel) rfl rfl ?_
        refine sIc_ne oI (off := 7) (tgt := 108) (by decide +kernel) (by decide) (fun _ => ?_) (fun _ => ?_)
        · refine sBk (lo' := [(0, vr 13 0), (1, vi v1), (2, vi v2), (3, vi v3), (4, vi v4), (5, vi v5), (6, vi v6), (7, vi v7), (8, vi v8), (9, vi v9)]) (st' := [vi (22 + v6), vr 61 0, vi (22 + v6), vr 61 0]) (μ' := μ) (pc' := 117) [(.aload_n 0, 0, 0, 0, 0), (.getfield 35, 12, 20, 0, 0), (.bipush 22, 0, 0, 22, 0), (.iload 6, 0, 0, 0, 0), (.iadd, 0, 0, 0, 0)] (by decide +kernel) rfl rfl ?_
          refine sS_ial oI rfl (n := 1740) (j := (ix (22 + v6))) (by decide +kernel) rfl rfl rfl (fun _ => ?_)
          exact X12_plays_J118_ok hd hrec ih v1 v2 v3 v4 v5 v6 v7 v8 v9 (rI μ 61 0 (ix (22 + v6))) (22 + v6) μ
        · refine sBk (lo' := [(0, vr 13 0), (1, vi v1), (2, vi v2), (3, vi v3), (4, vi v4), (5, vi v5), (6, vi v6), (7, vi v7), (8, vi v8), (9, vi v9)]) (st' := [vi 0, vi (22 + v6), vr 61 0]) (μ' := μ) (pc' := 105) [(.iconst 0, 0, 0, 0, 0)] (by decide +kernel) rfl rfl ?_
          refine sGt (off := 13) (tgt := 118) (by decide +kernel) (by decide) ?_
          exact X12_plays_J118_ok hd hrec ih v1 v2 v3 v4 v5 v6 v7 v8 v9 0 (22 + v6) μ
      · refine sBk (lo' := [(0, vr 13 0), (1, vi v1), (2, vi v2), (3, vi v3), (4, vi v4), (5, vi v5), (6, vi v6), (7, vi v7), (8, vi v8), (9, vi v9)]) (st' := [vi 99, vi (22 + v6), vr 61 0]) (μ' := μ) (pc' := 95) [(.bipush 99, 0, 0, 99, 0)] (by decide +kernel) rfl rfl ?_
        refine sGt (off := 23) (tgt := 118) (by decide +kernel) (by decide) ?_
        exact X12_plays_J118_ok hd hrec ih v1 v2 v3 v4 v5 v6 v7 v8 v9 99 (22 + v6) μ
def X12_plays_J55 (rec : Int32 → Int32 → Int32 → Int32 → sM → Option (Int32 × sM)) (v1 : Int32) (v2 : Int32) (v3 : Int32) (v4 : Int32) (v5 : Int32) (s0 : Int32) (s1 : Int32) (μ : sM) : Option (Int32 × sM) :=
  if inb (s1 + s0) 1740 = true then
    bV (X12_laysTurn v3 μ) fun μ2 =>
      X12_plays_L73 rec fuN v1 v2 v3 v4 v5 (rI μ 61 0 (ix (s1 + s0))) 0 (-1) 0 μ2
  else none
theorem X12_plays_J55_ok {rec : Int32 → Int32 → Int32 → Int32 → sM → Option (Int32 × sM)} {d0 : Nat} (hd : 2 ≤ d0) (hrec : ∀ (a1 : Int32) (a2 : Int32) (a3 : Int32) (a4 : Int32) (μ : sM), sMt yX12_plays cX12_plays 11 (some .int) d0 [vr 13 0, vi a1, vi a2, vi a3, vi a4] μ (oI (rec a1 a2 a3 a4 μ))) (v1 : Int32) (v2 : Int32) (v3 : Int32) (v4 : Int32) (v5 : Int32) (s0 : Int32) (s1 : Int32) (μ : sM) : sOk 12 cX12_plays 11 (d0 + 1) false 55 [(0, vr 13 0), (1, vi v1), (2, vi v2), (3, vi v3), (4, vi v4), (5, vi v5)] [vi s0, vi s1, vr 61 0] μ (oI (X12_plays_J55 rec v1 v2 v3 v4 v5 s0 s1 μ)) := by
  unfold X12_plays_J55
  refine sBk (lo' := [(0, vr 13 0), (1, vi v1), (2, vi v2), (3, vi v3), (4, vi v4), (5, vi v5)]) (st' := [vi (s1 + s0), vr 61 0]) (μ' := μ) (pc' := 56) [(.iadd, 0, 0, 0, 0)] (by decide +kernel) rfl rfl ?_
  refine sS_ial oI rfl (n := 1740) (j := (ix (s1 + s0))) (by decide +kernel) rfl rfl rfl (fun _ => ?_)
  refine sBk (lo' := [(8, vi (-1)), (7, vi 0), (6, vi (rI μ 61 0 (ix (s1 + s0)))), (0, vr 13 0), (1, vi v1), (2, vi v2), (3, vi v3), (4, vi v4), (5, vi v5)]) (st' := [vi v3, vr 13 0]) (μ' := μ) (pc' := 67) [(.istore 6, 0, 0, 0, 0), (.iconst 0, 0, 0, 0, 0), (.istore 7, 0, 0, 0, 0), (.iconst (-1), 0, 0, (-1), 0), (.istore 8, 0, 0, 0, 0), (.aload_n 0, 0, 0, 0, 0), (.iload_n 3, 0, 0, 0, 0)] (by decide +kernel) rfl rfl ?_
  refine sCvV oI rfl (ci := 12) (q := (13, 0)) (avs := [vi v3]) (rest := []) (tX12_laysTurn v3 μ) (by omega) (by decide +kernel) lk_12_440 yv_X12_laysTurn rfl (by decide) rfl rfl rfl (Nat.le_of_ble_eq_true rfl) (fun μ2 => ?_)
  refine sBk (lo' := [(9, vi 0), (8, vi (-1)), (7, vi 0), (6, vi (rI μ 61 0 (ix (s1 + s0)))), (0, vr 13 0), (1, vi v1), (2, vi v2), (3, vi v3), (4, vi v4), (5, vi v5)]) (st' := []) (μ' := μ2) (pc' := 73) [(.iconst 0, 0, 0, 0, 0), (.istore 9, 0, 0, 0, 0)] (by decide +kernel) rfl rfl ?_
  refine sWk (lo' := [(0, vr 13 0), (1, vi v1), (2, vi v2), (3, vi v3), (4, vi v4), (5, vi v5), (6, vi (rI μ 61 0 (ix (s1 + s0)))), (7, vi 0), (8, vi (-1)), (9, vi 0)]) [4, 5, 6, 7, 8, 9, 3, 2, 1, 0] rfl ?_
  exact X12_plays_L73_ok hd hrec fuN v1 v2 v3 v4 v5 (rI μ 61 0 (ix (s1 + s0))) 0 (-1) 0 μ2
def X12_plays_J37 (rec : Int32 → Int32 → Int32 → Int32 → sM → Option (Int32 × sM)) (v1 : Int32) (v2 : Int32) (v3 : Int32) (v4 : Int32) (s0 : Int32) (μ : sM) : Option (Int32 × sM) :=
  if s0 = 0 then
    X12_plays_J55 rec v1 v2 v3 v4 s0 v2 34 μ
  else
    X12_plays_J55 rec v1 v2 v3 v4 s0 v1 34 μ
theorem X12_plays_J37_ok {rec : Int32 → Int32 → Int32 → Int32 → sM → Option (Int32 × sM)} {d0 : Nat} (hd : 2 ≤ d0) (hrec : ∀ (a1 : Int32) (a2 : Int32) (a3 : Int32) (a4 : Int32) (μ : sM), sMt yX12_plays cX12_plays 11 (some .int) d0 [vr 13 0, vi a1, vi a2, vi a3, vi a4] μ (oI (rec a1 a2 a3 a4 μ))) (v1 : Int32) (v2 : Int32) (v3 : Int32) (v4 : Int32) (s0 : Int32) (μ : sM) : sOk 12 cX12_plays 11 (d0 + 1) false 37 [(0, vr 13 0), (1, vi v1), (2, vi v2), (3, vi v3), (4, vi v4)] [vi s0] μ (oI (X12_plays_J37 rec v1 v2 v3 v4 s0 μ)) := by
  unfold X12_plays_J37
  refine sBk (lo' := [(5, vi s0), (0, vr 13 0), (1, vi v1), (2, vi v2), (3, vi v3), (4, vi v4)]) (st' := [vi s0, vi 34, vr 61 0]) (μ' := μ) (pc' := 47) [(.istore 5, 0, 0, 0, 0), (.aload_n 0, 0, 0, 0, 0), (.getfield 35, 12, 20, 0, 0), (.bipush 34, 0, 0, 34, 0), (.iload 5, 0, 0, 0, 0)] (by decide +kernel) rfl rfl ?_
  refine sIf_eq oI (off := 7) (tgt := 54) (by decide +kernel) (by decide) (fun _ => ?_) (fun _ => ?_)
  · refine sBk (lo' := [(5, vi s0), (0, vr 13 0), (1, vi v1), (2, vi v2), (3, vi v3), (4, vi v4)]) (st' := [vi v2, vi 34, vr 61 0]) (μ' := μ) (pc' := 55) [(.iload_n 2, 0, 0, 0, 0)] (by decide +kernel) rfl rfl ?_
    refine sWk (lo' := [(0, vr 13 0), (1, vi v1), (2, vi v2), (3, vi v3), (4, vi v4), (5, vi s0)]) [1, 2, 3, 4, 5, 0] rfl ?_
    exact X12_plays_J55_ok hd hrec v1 v2 v3 v4 s0 v2 34 μ
  · refine sBk (lo' := [(5, vi s0), (0, vr 13 0), (1, vi v1), (2, vi v2), (3, vi v3), (4, vi v4)]) (st' := [vi v1, vi 34, vr 61 0]) (μ' := μ) (pc' := 51) [(.iload_n 1, 0, 0, 0, 0)] (by decide +kernel) rfl rfl ?_
    refine sGt (off := 4) (tgt := 55) (by decide +kernel) (by decide) ?_
    refine sWk (lo' := [(0, vr 13 0), (1, vi v1), (2, vi v2), (3, vi v3), (4, vi v4), (5, vi s0)]) [1, 2, 3, 4, 5, 0] rfl ?_
    exact X12_plays_J55_ok hd hrec v1 v2 v3 v4 s0 v1 34 μ
def X12_plays_ (rec : Int32 → Int32 → Int32 → Int32 → sM → Option (Int32 × sM)) (a1 : Int32) (a2 : Int32) (a3 : Int32) (a4 : Int32) (μ : sM) : Option (Int32 × sM) :=
  if a3 = a4 then
    if inb (46 + a1) 1740 = true then
      if inb (46 + a2) 1740 = true then
        some (((rI μ 61 0 (ix (46 + a1))) - (rI μ 61 0 (ix (46 + a2)))), μ)
      else none
    else none
  else
    if (irm a3 2) = 0 then
      X12_plays_J37 rec a1 a2 a3 a4 1 μ
    else
      X12_plays_J37 rec a1 a2 a3 a4 0 μ
theorem tX12_plays_ {rec : Int32 → Int32 → Int32 → Int32 → sM → Option (Int32 × sM)} {d0 : Nat} (hd : 2 ≤ d0) (hrec : ∀ (a1 : Int32) (a2 : Int32) (a3 : Int32) (a4 : Int32) (μ : sM), sMt yX12_plays cX12_plays 11 (some .int) d0 [vr 13 0, vi a1, vi a2, vi a3, vi a4] μ (oI (rec a1 a2 a3 a4 μ))) (a1 : Int32) (a2 : Int32) (a3 : Int32) (a4 : Int32) (μ : sM) : sMt yX12_plays cX12_plays 11 (some .int) (d0 + 1) [vr 13 0, vi a1, vi a2, vi a3, vi a4] μ (oI (X12_plays_ rec a1 a2 a3 a4 μ)) := by
  refine sMt_of (own := 12) (bl := false) (by decide +kernel) rfl (Nat.le_of_ble_eq_true rfl) (fun r ρ h => ?_) ?_
  · obtain ⟨q, -, hq⟩ := Option.map_eq_some_iff.mp h
    cases hq
    exact Or.inl rfl
  · unfold X12_plays_
    show sOk 12 cX12_plays 11 (d0 + 1) false 0 [(0, vr 13 0), (1, vi a1), (2, vi a2), (3, vi a3), (4, vi a4)] [] μ _
    refine sBk (lo' := [(0, vr 13 0), (1, vi a1), (2, vi a2), (3, vi a3), (4, vi a4)]) (st' := [vi a4, vi a3]) (μ' := μ) (pc' := 3) [(.iload_n 3, 0, 0, 0, 0), (.iload 4, 0, 0, 0, 0)] (by decide +kernel) rfl rfl ?_
    refine sIc_ne oI (off := 23) (tgt := 26) (by decide +kernel) (by decide) (fun _ => ?_) (fun _ => ?_)
    · refine sBk (lo' := [(0, vr 13 0), (1, vi a1), (2, vi a2), (3, vi a3), (4, vi a4)]) (st' := [vi 2, vi a3]) (μ' := μ) (pc' := 28) [(.iload_n 3, 0, 0, 0, 0), (.iconst 2, 0, 0, 2, 0)] (by decide +kernel) rfl rfl ?_
      refine sC_irm (by decide +kernel) (by decide +kernel) ?_
      refine sIf_ne oI (off := 7) (tgt := 36) (by decide +kernel) (by decide) (fun _ => ?_) (fun _ => ?_)
      · refine sBk (lo' := [(0, vr 13 0), (1, vi a1), (2, vi a2), (3, vi a3), (4, vi a4)]) (st' := [vi 0]) (μ' := μ) (pc' := 37) [(.iconst 0, 0, 0, 0, 0)] (by decide +kernel) rfl rfl ?_
        exact X12_plays_J37_ok hd hrec a1 a2 a3 a4 0 μ
      · refine sBk (lo' := [(0, vr 13 0), (1, vi a1), (2, vi a2), (3, vi a3), (4, vi a4)]) (st' := [vi 1]) (μ' := μ) (pc' := 33) [(.iconst 1, 0, 0, 1, 0)] (by decide +kernel) rfl rfl ?_
        refine sGt (off := 4) (tgt := 37) (by decide +kernel) (by decide) ?_
        exact X12_plays_J37_ok hd hrec a1 a2 a3 a4 1 μ
    · refine sBk (lo' := [(0, vr 13 0), (1, vi a1), (2, vi a2), (3, vi a3), (4, vi a4)]) (st' := [vi (46 + a1), vr 61 0]) (μ' := μ) (pc' := 14) [(.aload_n 0, 0, 0, 0, 0), (.getfield 35, 12, 20, 0, 0), (.bipush 46, 0, 0, 46, 0), (.iload_n 1, 0, 0, 0, 0), (.iadd, 0, 0, 0, 0)] (by decide +kernel) rfl rfl ?_
      refine sS_ial oI rfl (n := 1740) (j := (ix (46 + a1))) (by decide +kernel) rfl rfl rfl (fun _ => ?_)
      refine sBk (lo' := [(0, vr 13 0), (1, vi a1), (2, vi a2), (3, vi a3), (4, vi a4)]) (st' := [vi (46 + a2), vr 61 0, vi (rI μ 61 0 (ix (46 + a1)))]) (μ' := μ) (pc' := 23) [(.aload_n 0, 0, 0, 0, 0), (.getfield 35, 12, 20, 0, 0), (.bipush 46, 0, 0, 46, 0), (.iload_n 2, 0, 0, 0, 0), (.iadd, 0, 0, 0, 0)] (by decide +kernel) rfl rfl ?_
      refine sS_ial oI rfl (n := 1740) (j := (ix (46 + a2))) (by decide +kernel) rfl rfl rfl (fun _ => ?_)
      refine sBk (lo' := [(0, vr 13 0), (1, vi a1), (2, vi a2), (3, vi a3), (4, vi a4)]) (st' := [vi ((rI μ 61 0 (ix (46 + a1))) - (rI μ 61 0 (ix (46 + a2))))]) (μ' := μ) (pc' := 25) [(.isub, 0, 0, 0, 0)] (by decide +kernel) rfl rfl ?_
      exact sRi (by decide +kernel) (fun h => by cases h)
def X12_playsN : Nat → Int32 → Int32 → Int32 → Int32 → sM → Option (Int32 × sM)
  | 0 => fun _ _ _ _ _ => none
  | n + 1 => X12_plays_ (X12_playsN n)
theorem tX12_playsN : ∀ (n : Nat) (a1 : Int32) (a2 : Int32) (a3 : Int32) (a4 : Int32) (μ : sM), sMt yX12_plays cX12_plays 11 (some .int) (2 + n) [vr 13 0, vi a1, vi a2, vi a3, vi a4] μ (oI (X12_playsN n a1 a2 a3 a4 μ))
  | 0, _, _, _, _, _ => fun _ _ h => by cases h
  | n + 1, a1, a2, a3, a4, μ => tX12_plays_ (d0 := 2 + n) (by omega) (fun a1 a2 a3 a4 μ => tX12_playsN n a1 a2 a3 a4 μ) a1 a2 a3 a4 μ
def X12_plays (a1 : Int32) (a2 : Int32) (a3 : Int32) (a4 : Int32) (μ : sM) : Option (Int32 × sM) := X12_playsN 6 a1 a2 a3 a4 μ
theorem tX12_plays (a1 : Int32) (a2 : Int32) (a3 : Int32) (a4 : Int32) (μ : sM) : sMt yX12_plays cX12_plays 11 (some .int) 8 [vr 13 0, vi a1, vi a2, vi a3, vi a4] μ (oI (X12_plays a1 a2 a3 a4 μ)) := tX12_playsN 6 a1 a2 a3 a4 μ
/-! ClockRiverModel.game -/
def X12_game (a1 : Int32) (a2 : Int32) (a3 : Int32) (μ : sM) : Option (Int32 × sM) :=
  bI (X12_whyNoGame a1 a2 a3 0 (wI μ 13 0 1 0)) fun x1 μ2 =>
    if x1 ≤ 0 then
      if inb (46 + a1) 1740 = true then
        if inb (46 + a2) 1740 = true then
          bI (X12_plays a1 a2 0 a3 (wI μ2 13 0 0 x1)) fun x3 μ4 =>
            some ((x3 - ((rI μ2 61 0 (ix (46 + a1))) - (rI μ2 61 0 (ix (46 + a2))))), μ4)
        else none
      else none
    else
      some ((-1), wI μ2 13 0 0 x1)
theorem tX12_game (a1 : Int32) (a2 : Int32) (a3 : Int32) (μ : sM) : sMt yX12_game cX12_game 5 (some .int) 9 [vr 13 0, vi a1, vi a2, vi a3] μ (oI (X12_game a1 a2 a3 μ)) := by
  refine sMt_of (own := 12) (bl := false) (by decide +kernel) rfl (Nat.le_of_ble_eq_true rfl) (fun r ρ h => ?_) ?_
  · obtain ⟨q, -, hq⟩ := Option.map_eq_some_iff.mp h
    cases hq
    exact Or.inl rfl
  · unfold X12_game
    show sOk 12 cX12_game 5 9 false 0 [(0, vr 13 0), (1, vi a1), (2, vi a2), (3, vi a3)] [] μ _
    refine sBk (lo' := [(0, vr 13 0), (1, vi a1), (2, vi a2), (3, vi a3)]) (st' := [vi 0, vi a3, vi a2, vi a1, vr 13 0, vr 13 0]) (μ' := wI μ 13 0 1 0) (pc' := 11) [(.aload_n 0, 0, 0, 0, 0), (.iconst 0, 0, 0, 0, 0), (.putfield 72, 12, 1, 0, 0), (.aload_n 0, 0, 0, 0, 0), (.aload_n 0, 0, 0, 0, 0), (.iload_n 1, 0, 0, 0, 0), (.iload_n 2, 0, 0, 0, 0), (.iload_n 3, 0, 0, 0, 0), (.iconst 0, 0, 0, 0, 0)] (by decide +kernel) rfl rfl ?_
    refine sCvI oI rfl (ci := 12) (q := (13, 0)) (avs := [vi a1, vi a2, vi a3, vi 0]) (rest := [vr 13 0]) (tX12_whyNoGame a1 a2 a3 0 (wI μ 13 0 1 0)) (by decide) (by decide +kernel) lk_12_480 yv_X12_whyNoGame rfl (by decide) rfl rfl rfl (Nat.le_of_ble_eq_true rfl) (fun x1 μ2 => ?_)
    refine sBk (lo' := [(0, vr 13 0), (1, vi a1), (2, vi a2), (3, vi a3)]) (st' := [vi x1]) (μ' := wI μ2 13 0 0 x1) (pc' := 21) [(.putfield 75, 12, 0, 0, 0), (.aload_n 0, 0, 0, 0, 0), (.getfield 75, 12, 0, 0, 0)] (by decide +kernel) rfl rfl ?_
    refine sIf_le oI (off := 5) (tgt := 26) (by decide +kernel) (by decide) (fun _ => ?_) (fun _ => ?_)
    · refine sBk (lo' := [(0, vr 13 0), (1, vi a1), (2, vi a2), (3, vi a3)]) (st' := [vi (46 + a1), vr 61 0]) (μ' := wI μ2 13 0 0 x1) (pc' := 34) [(.aload_n 0, 0, 0, 0, 0), (.getfield 35, 12, 20, 0, 0), (.bipush 46, 0, 0, 46, 0), (.iload_n 1, 0, 0, 0, 0), (.iadd, 0, 0, 0, 0)] (by decide +kernel) rfl rfl ?_
      refine sS_ial oI rfl (n := 1740) (j := (ix (46 + a1))) (by decide +kernel) rfl rfl rfl (fun _ => ?_)
      refine sBk (lo' := [(0, vr 13 0), (1, vi a1), (2, vi a2), (3, vi a3)]) (st' := [vi (46 + a2), vr 61 0, vi (rI μ2 61 0 (ix (46 + a1)))]) (μ' := wI μ2 13 0 0 x1) (pc' := 43) [(.aload_n 0, 0, 0, 0, 0), (.getfield 35, 12, 20, 0, 0), (.bipush 46, 0, 0, 46, 0), (.iload_n 2, 0, 0, 0, 0), (.iadd, 0, 0, 0, 0)] (by decide +kernel) rfl rfl ?_
      refine sS_ial oI rfl (n := 1740) (j := (ix (46 + a2))) (by decide +kernel) rfl rfl rfl (fun _ => ?_)
      refine sBk (lo' := [(4, vi ((rI μ2 61 0 (ix (46 + a1))) - (rI μ2 61 0 (ix (46 + a2))))), (0, vr 13 0), (1, vi a1), (2, vi a2), (3, vi a3)]) (st' := [vi a3, vi 0, vi a2, vi a1, vr 13 0]) (μ' := wI μ2 13 0 0 x1) (pc' := 52) [(.isub, 0, 0, 0, 0), (.istore 4, 0, 0, 0, 0), (.aload_n 0, 0, 0, 0, 0), (.iload_n 1, 0, 0, 0, 0), (.iload_n 2, 0, 0, 0, 0), (.iconst 0, 0, 0, 0, 0), (.iload_n 3, 0, 0, 0, 0)] (by decide +kernel) rfl rfl ?_
      refine sCvI oI rfl (ci := 12) (q := (13, 0)) (avs := [vi a1, vi a2, vi 0, vi a3]) (rest := []) (tX12_plays a1 a2 0 a3 (wI μ2 13 0 0 x1)) (by decide) (by decide +kernel) lk_12_473 yv_X12_plays rfl (by decide) rfl rfl rfl (Nat.le_of_ble_eq_true rfl) (fun x3 μ4 => ?_)
      refine sBk (lo' := [(4, vi ((rI μ2 61 0 (ix (46 + a1))) - (rI μ2 61 0 (ix (46 + a2))))), (0, vr 13 0), (1, vi a1), (2, vi a2), (3, vi a3)]) (st' := [vi (x3 - ((rI μ2 61 0 (ix (46 + a1))) - (rI μ2 61 0 (ix (46 + a2)))))]) (μ' := μ4) (pc' := 58) [(.iload 4, 0, 0, 0, 0), (.isub, 0, 0, 0, 0)] (by decide +kernel) rfl rfl ?_
      exact sRi (by decide +kernel) (fun h => by cases h)
    · refine sBk (lo' := [(0, vr 13 0), (1, vi a1), (2, vi a2), (3, vi a3)]) (st' := [vi (-1)]) (μ' := wI μ2 13 0 0 x1) (pc' := 25) [(.iconst (-1), 0, 0, (-1), 0)] (by decide +kernel) rfl rfl ?_
      exact sRi (by decide +kernel) (fun h => by cases h)
/-! ClockRiverModel.moveOf -/
def X12_moveOf (a1 : Int32) (a2 : Int32) (a3 : Int32) (μ : sM) : Option (Int32 × sM) :=
  bI (X12_whyNoGame a1 a2 a3 1 (wI μ 13 0 1 0)) fun x1 μ2 =>
    if x1 ≤ 0 then
      bI (X12_plays a1 a2 0 a3 (wI μ2 13 0 0 x1)) fun x3 μ4 =>
        some ((rI μ4 13 0 37), μ4)
    else
      some ((-1), wI μ2 13 0 0 x1)
theorem tX12_moveOf (a1 : Int32) (a2 : Int32) (a3 : Int32) (μ : sM) : sMt yX12_moveOf cX12_moveOf 4 (some .int) 9 [vr 13 0, vi a1, vi a2, vi a3] μ (oI (X12_moveOf a1 a2 a3 μ)) := by
  refine sMt_of (own := 12) (bl := false) (by decide +kernel) rfl (Nat.le_of_ble_eq_true rfl) (fun r ρ h => ?_) ?_
  · obtain ⟨q, -, hq⟩ := Option.map_eq_some_iff.mp h
    cases hq
    exact Or.inl rfl
  · unfold X12_moveOf
    show sOk 12 cX12_moveOf 4 9 false 0 [(0, vr 13 0), (1, vi a1), (2, vi a2), (3, vi a3)] [] μ _
    refine sBk (lo' := [(0, vr 13 0), (1, vi a1), (2, vi a2), (3, vi a3)]) (st' := [vi 1, vi a3, vi a2, vi a1, vr 13 0, vr 13 0]) (μ' := wI μ 13 0 1 0) (pc' := 11) [(.aload_n 0, 0, 0, 0, 0), (.iconst 0, 0, 0, 0, 0), (.putfield 72, 12, 1, 0, 0), (.aload_n 0, 0, 0, 0, 0), (.aload_n 0, 0, 0, 0, 0), (.iload_n 1, 0, 0, 0, 0), (.iload_n 2, 0, 0, 0, 0), (.iload_n 3, 0, 0, 0, 0), (.iconst 1, 0, 0, 1, 0)] (by decide +kernel) rfl rfl ?_
    refine sCvI oI rfl (ci := 12) (q := (13, 0)) (avs := [vi a1, vi a2, vi a3, vi 1]) (rest := [vr 13 0]) (tX12_whyNoGame a1 a2 a3 1 (wI μ 13 0 1 0)) (by decide) (by decide +kernel) lk_12_480 yv_X12_whyNoGame rfl (by decide) rfl rfl rfl (Nat.le_of_ble_eq_true rfl) (fun x1 μ2 => ?_)
    refine sBk (lo' := [(0, vr 13 0), (1, vi a1), (2, vi a2), (3, vi a3)]) (st' := [vi x1]) (μ' := wI μ2 13 0 0 x1) (pc' := 21) [(.putfield 75, 12, 0, 0, 0), (.aload_n 0, 0, 0, 0, 0), (.getfield 75, 12, 0, 0, 0)] (by decide +kernel) rfl rfl ?_
    refine sIf_le oI (off := 5) (tgt := 26) (by decide +kernel) (by decide) (fun _ => ?_) (fun _ => ?_)
    · refine sBk (lo' := [(0, vr 13 0), (1, vi a1), (2, vi a2), (3, vi a3)]) (st' := [vi a3, vi 0, vi a2, vi a1, vr 13 0]) (μ' := wI μ2 13 0 0 x1) (pc' := 31) [(.aload_n 0, 0, 0, 0, 0), (.iload_n 1, 0, 0, 0, 0), (.iload_n 2, 0, 0, 0, 0), (.iconst 0, 0, 0, 0, 0), (.iload_n 3, 0, 0, 0, 0)] (by decide +kernel) rfl rfl ?_
      refine sCvI oI rfl (ci := 12) (q := (13, 0)) (avs := [vi a1, vi a2, vi 0, vi a3]) (rest := []) (tX12_plays a1 a2 0 a3 (wI μ2 13 0 0 x1)) (by decide) (by decide +kernel) lk_12_473 yv_X12_plays rfl (by decide) rfl rfl rfl (Nat.le_of_ble_eq_true rfl) (fun x3 μ4 => ?_)
      refine sBk (lo' := [(0, vr 13 0), (1, vi a1), (2, vi a2), (3, vi a3)]) (st' := [vi (rI μ4 13 0 37)]) (μ' := μ4) (pc' := 39) [(.pop, 0, 0, 0, 0), (.aload_n 0, 0, 0, 0, 0), (.getfield 477, 12, 37, 0, 0)] (by decide +kernel) rfl rfl ?_
      exact sRi (by decide +kernel) (fun h => by cases h)
    · refine sBk (lo' := [(0, vr 13 0), (1, vi a1), (2, vi a2), (3, vi a3)]) (st' := [vi (-1)]) (μ' := wI μ2 13 0 0 x1) (pc' := 25) [(.iconst (-1), 0, 0, (-1), 0)] (by decide +kernel) rfl rfl ?_
      exact sRi (by decide +kernel) (fun h => by cases h)
/-! ClockRiverModel.fraction -/
def X12_fraction_L9 : Nat → Int64 → Int64 → Int64 → Int64 → sM → Option (Int32 × sM)
  | 0, _, _, _, _, _ => none
  | n + 1, v1, v3, v5, v7, μ =>
    if (lg_cmp v7 0) = 0 then
      if v5 = 0 then none else
        if v5 = 0 then none else
          some (1, wL (wL μ 13 0 2 (v1 / v5)) 13 0 3 (v3 / v5))
    else
      if v7 = 0 then none else
        X12_fraction_L9 n v1 v3 v7 (lrm v5 v7) μ
theorem X12_fraction_L9_ok : ∀ (n : Nat) (v1 : Int64) (v3 : Int64) (v5 : Int64) (v7 : Int64) (μ : sM), sOk 12 cX12_fraction 11 1 true 9 [(0, vr 13 0), (1, vl v1), (3, vl v3), (5, vl v5), (7, vl v7)] [] μ (oI (X12_fraction_L9 n v1 v3 v5 v7 μ)) := by
  intro n
  induction n with
  | zero =>
    intros
    exact sNo
  | succ n ih =>
    intro v1 v3 v5 v7 μ
    unfold X12_fraction_L9
    refine sBk (lo' := [(0, vr 13 0), (1, vl v1), (3, vl v3), (5, vl v5), (7, vl v7)]) (st' := [vi (lg_cmp v7 0)]) (μ' := μ) (pc' := 13) [(.lload 7, 0, 0, 0, 0), (.lconst 0, 0, 0, 0, 0), (.lcmp, 0, 0, 0, 0)] (by decide +kernel) rfl rfl ?_
    refine sIf_eq oI (off := 21) (tgt := 34) (by decide +kernel) (by decide) (fun _ => ?_) (fun _ => ?_)
    · refine sBk (lo' := [(0, vr 13 0), (1, vl v1), (3, vl v3), (5, vl v5), (7, vl v7)]) (st' := [vl v5, vl v1, vr 13 0]) (μ' := μ) (pc' := 38) [(.aload_n 0, 0, 0, 0, 0), (.lload_n 1, 0, 0, 0, 0), (.lload 5, 0, 0, 0, 0)] (by decide +kernel) rfl rfl ?_
      refine sS_ldv oI rfl (by decide +kernel) (fun _ => ?_)
      refine sBk (lo' := [(0, vr 13 0), (1, vl v1), (3, vl v3), (5, vl v5), (7, vl v7)]) (st' := [vl v5, vl v3, vr 13 0]) (μ' := wL μ 13 0 2 (v1 / v5)) (pc' := 46) [(.putfield 78, 12, 2, 0, 0), (.aload_n 0, 0, 0, 0, 0), (.lload_n 3, 0, 0, 0, 0), (.lload 5, 0, 0, 0, 0)] (by decide +kernel) rfl rfl ?_
      refine sS_ldv oI rfl (by decide +kernel) (fun _ => ?_)
      refine sBk (lo' := [(0, vr 13 0), (1, vl v1), (3, vl v3), (5, vl v5), (7, vl v7)]) (st' := [vi 1]) (μ' := wL (wL μ 13 0 2 (v1 / v5)) 13 0 3 (v3 / v5)) (pc' := 51) [(.putfield 7, 12, 3, 0, 0), (.iconst 1, 0, 0, 1, 0)] (by decide +kernel) rfl rfl ?_
      exact sRi (by decide +kernel) (fun _ => Or.inr rfl)
    · refine sBk (lo' := [(0, vr 13 0), (1, vl v1), (3, vl v3), (5, vl v5), (7, vl v7)]) (st' := [vl v7, vl v5]) (μ' := μ) (pc' := 20) [(.lload 5, 0, 0, 0, 0), (.lload 7, 0, 0, 0, 0)] (by decide +kernel) rfl rfl ?_
      refine sS_lrm oI rfl (by decide +kernel) (fun _ => ?_)
      refine sBk (lo' := [(7, vl (lrm v5 v7)), (5, vl v7), (9, vl (lrm v5 v7)), (0, vr 13 0), (1, vl v1), (3, vl v3)]) (st' := []) (μ' := μ) (pc' := 31) [(.lstore 9, 0, 0, 0, 0), (.lload 7, 0, 0, 0, 0), (.lstore 5, 0, 0, 0, 0), (.lload 9, 0, 0, 0, 0), (.lstore 7, 0, 0, 0, 0)] (by decide +kernel) rfl rfl ?_
      refine sGt (off := (-22)) (tgt := 9) (by decide +kernel) (by decide) ?_
      refine sWk (lo' := [(0, vr 13 0), (1, vl v1), (3, vl v3), (5, vl v7), (7, vl (lrm v5 v7))]) [3, 4, 5, 1, 0] rfl ?_
      exact ih v1 v3 v7 (lrm v5 v7) μ
def X12_fraction (a1 : Int64) (a3 : Int64) (μ : sM) : Option (Int32 × sM) :=
  X12_fraction_L9 fuN a1 a3 (lab a1) a3 μ
theorem tX12_fraction (a1 : Int64) (a3 : Int64) (μ : sM) : sMt yX12_fraction cX12_fraction 11 (some .boolean) 1 [vr 13 0, vl a1, vl a3] μ (oI (X12_fraction a1 a3 μ)) := by
  refine sMt_of (own := 12) (bl := true) (by decide +kernel) rfl (Nat.le_of_ble_eq_true rfl) (fun r ρ h => ?_) ?_
  · obtain ⟨q, -, hq⟩ := Option.map_eq_some_iff.mp h
    cases hq
    exact Or.inr ⟨rfl, rfl⟩
  · unfold X12_fraction
    show sOk 12 cX12_fraction 11 1 true 0 [(0, vr 13 0), (1, vl a1), (3, vl a3)] [] μ _
    refine sBk (lo' := [(0, vr 13 0), (1, vl a1), (3, vl a3)]) (st' := [vl a1]) (μ' := μ) (pc' := 1) [(.lload_n 1, 0, 0, 0, 0)] (by decide +kernel) rfl rfl ?_
    refine sAbsL (idx := 81) (p1 := 2166) (by decide +kernel) (by decide) (Nat.le_of_ble_eq_true rfl) ?_
    refine sBk (lo' := [(7, vl a3), (5, vl (lab a1)), (0, vr 13 0), (1, vl a1), (3, vl a3)]) (st' := []) (μ' := μ) (pc' := 9) [(.lstore 5, 0, 0, 0, 0), (.lload_n 3, 0, 0, 0, 0), (.lstore 7, 0, 0, 0, 0)] (by decide +kernel) rfl rfl ?_
    refine sWk (lo' := [(0, vr 13 0), (1, vl a1), (3, vl a3), (5, vl (lab a1)), (7, vl a3)]) [2, 3, 4, 1, 0] rfl ?_
    exact X12_fraction_L9_ok fuN a1 a3 (lab a1) a3 μ
/-! ClockRiverModel.share -/
def X12_share (a1 : Int32) (μ : sM) : Option (Int32 × sM) :=
  bI (X12_isMillAt a1 (wI (wI μ 13 0 1 0) 13 0 0 0)) fun x1 μ2 =>
    if x1 = 0 then
      bI (X12_no 2 μ2) fun x11 μ12 =>
        if x11 = 0 ∨ x11 = 1 then some (x11, μ12) else none
    else
      bI (X12_allGround μ2) fun x3 μ4 =>
        if x3 = 0 then
          bI (X12_no 8 μ4) fun x9 μ10 =>
            if x9 = 0 ∨ x9 = 1 then some (x9, μ10) else none
        else
          if inb (46 + a1) 1740 = true then
            bI (X12_allGround μ4) fun x5 μ6 =>
              bI (X12_fraction (Int32.toInt64 (rI μ4 61 0 (ix (46 + a1)))) (Int32.toInt64 x5) μ6) fun x7 μ8 =>
                if x7 = 0 ∨ x7 = 1 then some (x7, μ8) else none
          else none
theorem tX12_share (a1 : Int32) (μ : sM) : sMt yX12_share cX12_share 2 (some .boolean) 3 [vr 13 0, vi a1] μ (oI (X12_share a1 μ)) := by
  refine sMt_of (own := 12) (bl := true) (by decide +kernel) rfl (Nat.le_of_ble_eq_true rfl) (fun r ρ h => ?_) ?_
  · obtain ⟨q, -, hq⟩ := Option.map_eq_some_iff.mp h
    cases hq
    exact Or.inr ⟨rfl, rfl⟩
  · unfold X12_share
    show sOk 12 cX12_share 2 3 true 0 [(0, vr 13 0), (1, vi a1)] [] μ _
    refine sBk (lo' := [(0, vr 13 0), (1, vi a1)]) (st' := [vi a1, vr 13 0]) (μ' := wI (wI μ 13 0 1 0) 13 0 0 0) (pc' := 12) [(.aload_n 0, 0, 0, 0, 0), (.iconst 0, 0, 0, 0, 0), (.putfield 72, 12, 1, 0, 0), (.aload_n 0, 0, 0, 0, 0), (.iconst 0, 0, 0, 0, 0), (.putfield 75, 12, 0, 0, 0), (.aload_n 0, 0, 0, 0, 0), (.iload_n 1, 0, 0, 0, 0)] (by decide +kernel) rfl rfl ?_
    refine sCvI oI rfl (ci := 12) (q := (13, 0)) (avs := [vi a1]) (rest := []) (tX12_isMillAt a1 (wI (wI μ 13 0 1 0) 13 0 0 0)) (by decide) (by decide +kernel) lk_12_350 yv_X12_isMillAt rfl (by decide) rfl rfl rfl (Nat.le_of_ble_eq_true rfl) (fun x1 μ2 => ?_)
    refine sIf_ne oI (off := 9) (tgt := 24) (by decide +kernel) (by decide) (fun _ => ?_) (fun _ => ?_)
    · refine sBk (lo' := [(0, vr 13 0), (1, vi a1)]) (st' := [vr 13 0]) (μ' := μ2) (pc' := 25) [(.aload_n 0, 0, 0, 0, 0)] (by decide +kernel) rfl rfl ?_
      refine sCvI oI rfl (ci := 12) (q := (13, 0)) (avs := []) (rest := []) (tX12_allGround μ2) (by decide) (by decide +kernel) lk_12_331 yv_X12_allGround rfl (by decide) rfl rfl rfl (Nat.le_of_ble_eq_true rfl) (fun x3 μ4 => ?_)
      refine sIf_ne oI (off := 10) (tgt := 38) (by decide +kernel) (by decide) (fun _ => ?_) (fun _ => ?_)
      · refine sBk (lo' := [(0, vr 13 0), (1, vi a1)]) (st' := [vi (46 + a1), vr 61 0, vr 13 0]) (μ' := μ4) (pc' := 47) [(.aload_n 0, 0, 0, 0, 0), (.aload_n 0, 0, 0, 0, 0), (.getfield 35, 12, 20, 0, 0), (.bipush 46, 0, 0, 46, 0), (.iload_n 1, 0, 0, 0, 0), (.iadd, 0, 0, 0, 0)] (by decide +kernel) rfl rfl ?_
        refine sS_ial oI rfl (n := 1740) (j := (ix (46 + a1))) (by decide +kernel) rfl rfl rfl (fun _ => ?_)
        refine sBk (lo' := [(0, vr 13 0), (1, vi a1)]) (st' := [vr 13 0, vl (Int32.toInt64 (rI μ4 61 0 (ix (46 + a1)))), vr 13 0]) (μ' := μ4) (pc' := 50) [(.i2l, 0, 0, 0, 0), (.aload_n 0, 0, 0, 0, 0)] (by decide +kernel) rfl rfl ?_
        refine sCvI oI rfl (ci := 12) (q := (13, 0)) (avs := []) (rest := [vl (Int32.toInt64 (rI μ4 61 0 (ix (46 + a1)))), vr 13 0]) (tX12_allGround μ4) (by decide) (by decide +kernel) lk_12_331 yv_X12_allGround rfl (by decide) rfl rfl rfl (Nat.le_of_ble_eq_true rfl) (fun x5 μ6 => ?_)
        refine sBk (lo' := [(0, vr 13 0), (1, vi a1)]) (st' := [vl (Int32.toInt64 x5), vl (Int32.toInt64 (rI μ4 61 0 (ix (46 + a1)))), vr 13 0]) (μ' := μ6) (pc' := 54) [(.i2l, 0, 0, 0, 0)] (by decide +kernel) rfl rfl ?_
        refine sCvI oI rfl (ci := 12) (q := (13, 0)) (avs := [vl (Int32.toInt64 (rI μ4 61 0 (ix (46 + a1)))), vl (Int32.toInt64 x5)]) (rest := []) (tX12_fraction (Int32.toInt64 (rI μ4 61 0 (ix (46 + a1)))) (Int32.toInt64 x5) μ6) (by decide) (by decide +kernel) lk_12_483 yv_X12_fraction rfl (by decide) rfl rfl rfl (Nat.le_of_ble_eq_true rfl) (fun x7 μ8 => ?_)
        exact sCk oI rfl (fun h => sRi (by decide +kernel) (fun _ => h))
      · refine sBk (lo' := [(0, vr 13 0), (1, vi a1)]) (st' := [vi 8, vr 13 0]) (μ' := μ4) (pc' := 34) [(.aload_n 0, 0, 0, 0, 0), (.bipush 8, 0, 0, 8, 0)] (by decide +kernel) rfl rfl ?_
        refine sCvI oI rfl (ci := 12) (q := (13, 0)) (avs := [vi 8]) (rest := []) (tX12_no 8 μ4) (by decide) (by decide +kernel) lk_12_87 yv_X12_no rfl (by decide) rfl rfl rfl (Nat.le_of_ble_eq_true rfl) (fun x9 μ10 => ?_)
        exact sCk oI rfl (fun h => sRi (by decide +kernel) (fun _ => h))
    · refine sBk (lo' := [(0, vr 13 0), (1, vi a1)]) (st' := [vi 2, vr 13 0]) (μ' := μ2) (pc' := 20) [(.aload_n 0, 0, 0, 0, 0), (.iconst 2, 0, 0, 2, 0)] (by decide +kernel) rfl rfl ?_
      refine sCvI oI rfl (ci := 12) (q := (13, 0)) (avs := [vi 2]) (rest := []) (tX12_no 2 μ2) (by decide) (by decide +kernel) lk_12_87 yv_X12_no rfl (by decide) rfl rfl rfl (Nat.le_of_ble_eq_true rfl) (fun x11 μ12 => ?_)
      exact sCk oI rfl (fun h => sRi (by decide +kernel) (fun _ => h))
/-! ClockRiverModel.price -/
def X12_price (a1 : Int32) (μ : sM) : Option (Int32 × sM) :=
  bI (X12_isWinderAt a1 (wI (wI μ 13 0 1 0) 13 0 0 0)) fun x1 μ2 =>
    if x1 = 0 then
      bI (X12_no 2 μ2) fun x3 μ4 =>
        if x3 = 0 ∨ x3 = 1 then some (x3, μ4) else none
    else
      if inb (58 + a1) 1740 = true then
        if inb (52 + a1) 1740 = true then
          bI (X12_fraction (Int32.toInt64 (rI μ2 61 0 (ix (58 + a1)))) (Int32.toInt64 (rI μ2 61 0 (ix (52 + a1)))) μ2) fun x5 μ6 =>
            if x5 = 0 ∨ x5 = 1 then some (x5, μ6) else none
        else none
      else none
theorem tX12_price (a1 : Int32) (μ : sM) : sMt yX12_price cX12_price 2 (some .boolean) 3 [vr 13 0, vi a1] μ (oI (X12_price a1 μ)) := by
  refine sMt_of (own := 12) (bl := true) (by decide +kernel) rfl (Nat.le_of_ble_eq_true rfl) (fun r ρ h => ?_) ?_
  · obtain ⟨q, -, hq⟩ := Option.map_eq_some_iff.mp h
    cases hq
    exact Or.inr ⟨rfl, rfl⟩
  · unfold X12_price
    show sOk 12 cX12_price 2 3 true 0 [(0, vr 13 0), (1, vi a1)] [] μ _
    refine sBk (lo' := [(0, vr 13 0), (1, vi a1)]) (st' := [vi a1, vr 13 0]) (μ' := wI (wI μ 13 0 1 0) 13 0 0 0) (pc' := 12) [(.aload_n 0, 0, 0, 0, 0), (.iconst 0, 0, 0, 0, 0), (.putfield 72, 12, 1, 0, 0), (.aload_n 0, 0, 0, 0, 0), (.iconst 0, 0, 0, 0, 0), (.putfield 75, 12, 0, 0, 0), (.aload_n 0, 0, 0, 0, 0), (.iload_n 1, 0, 0, 0, 0)] (by decide +kernel) rfl rfl ?_
    refine sCvI oI rfl (ci := 12) (q := (13, 0)) (avs := [vi a1]) (rest := []) (tX12_isWinderAt a1 (wI (wI μ 13 0 1 0) 13 0 0 0)) (by decide) (by decide +kernel) lk_12_355 yv_X12_isWinderAt rfl (by decide) rfl rfl rfl (Nat.le_of_ble_eq_true rfl) (fun x1 μ2 => ?_)
    refine sIf_eq oI (off := 30) (tgt := 45) (by decide +kernel) (by decide) (fun _ => ?_) (fun _ => ?_)
    · refine sBk (lo' := [(0, vr 13 0), (1, vi a1)]) (st' := [vi 2, vr 13 0]) (μ' := μ2) (pc' := 47) [(.aload_n 0, 0, 0, 0, 0), (.iconst 2, 0, 0, 2, 0)] (by decide +kernel) rfl rfl ?_
      refine sCvI oI rfl (ci := 12) (q := (13, 0)) (avs := [vi 2]) (rest := []) (tX12_no 2 μ2) (by decide) (by decide +kernel) lk_12_87 yv_X12_no rfl (by decide) rfl rfl rfl (Nat.le_of_ble_eq_true rfl) (fun x3 μ4 => ?_)
      exact sCk oI rfl (fun h => sRi (by decide +kernel) (fun _ => h))
    · refine sBk (lo' := [(0, vr 13 0), (1, vi a1)]) (st' := [vi (58 + a1), vr 61 0, vr 13 0]) (μ' := μ2) (pc' := 27) [(.aload_n 0, 0, 0, 0, 0), (.aload_n 0, 0, 0, 0, 0), (.getfield 35, 12, 20, 0, 0), (.bipush 58, 0, 0, 58, 0), (.iload_n 1, 0, 0, 0, 0), (.iadd, 0, 0, 0, 0)] (by decide +kernel) rfl rfl ?_
      refine sS_ial oI rfl (n := 1740) (j := (ix (58 + a1))) (by decide +kernel) rfl rfl rfl (fun _ => ?_)
      refine sBk (lo' := [(0, vr 13 0), (1, vi a1)]) (st' := [vi (52 + a1), vr 61 0, vl (Int32.toInt64 (rI μ2 61 0 (ix (58 + a1)))), vr 13 0]) (μ' := μ2) (pc' := 37) [(.i2l, 0, 0, 0, 0), (.aload_n 0, 0, 0, 0, 0), (.getfield 35, 12, 20, 0, 0), (.bipush 52, 0, 0, 52, 0), (.iload_n 1, 0, 0, 0, 0), (.iadd, 0, 0, 0, 0)] (by decide +kernel) rfl rfl ?_
      refine sS_ial oI rfl (n := 1740) (j := (ix (52 + a1))) (by decide +kernel) rfl rfl rfl (fun _ => ?_)
      refine sBk (lo' := [(0, vr 13 0), (1, vi a1)]) (st' := [vl (Int32.toInt64 (rI μ2 61 0 (ix (52 + a1)))), vl (Int32.toInt64 (rI μ2 61 0 (ix (58 + a1)))), vr 13 0]) (μ' := μ2) (pc' := 39) [(.i2l, 0, 0, 0, 0)] (by decide +kernel) rfl rfl ?_
      refine sCvI oI rfl (ci := 12) (q := (13, 0)) (avs := [vl (Int32.toInt64 (rI μ2 61 0 (ix (58 + a1)))), vl (Int32.toInt64 (rI μ2 61 0 (ix (52 + a1))))]) (rest := []) (tX12_fraction (Int32.toInt64 (rI μ2 61 0 (ix (58 + a1)))) (Int32.toInt64 (rI μ2 61 0 (ix (52 + a1)))) μ2) (by decide) (by decide +kernel) lk_12_483 yv_X12_fraction rfl (by decide) rfl rfl rfl (Nat.le_of_ble_eq_true rfl) (fun x5 μ6 => ?_)
      refine sGt (off := 8) (tgt := 50) (by decide +kernel) (by decide) ?_
      exact sCk oI rfl (fun h => sRi (by decide +kernel) (fun _ => h))
