theorem lk_12_500 : Cond.methodLink (kRn 12) 500 yX12_draw ∈ sT := sT_in (n := 2210) (by decide +kernel) rfl
theorem lk_12_503 : Cond.methodLink (kRn 12) 503 yX12_isWound ∈ sT := sT_in (n := 2202) (by decide +kernel) rfl
theorem lk_12_506 : Cond.methodLink (kRn 12) 506 yX12_anyHours ∈ sT := sT_in (n := 2198) (by decide +kernel) rfl
theorem lk_12_509 : Cond.methodLink (kRn 12) 509 yX12_isAny ∈ sT := sT_in (n := 2206) (by decide +kernel) rfl
theorem lk_12_525 : Cond.methodLink (kRn 12) 525 yX12_does ∈ sT := sT_in (n := 2194) (by decide +kernel) rfl
theorem lk_12_528 : Cond.methodLink (kRn 12) 528 yX12_isSo ∈ sT := sT_in (n := 2215) (by decide +kernel) rfl
theorem lk_12_531 : Cond.methodLink (kRn 12) 531 yX12_doAll ∈ sT := sT_in (n := 2186) (by decide +kernel) rfl
theorem lk_12_534 : Cond.methodLink (kRn 12) 534 yX12_doOne ∈ sT := sT_in (n := 2190) (by decide +kernel) rfl
theorem yv_X12_anyHours : yV yX12_anyHours cX12_anyHours 3 (some .boolean) 1 := ⟨⟨sT_in (n := 2201) (by decide +kernel) rfl, sT_in (n := 149) (by decide +kernel) rfl, by decide +kernel, by decide⟩, sT_in (n := 2200) (by decide +kernel) rfl, sT_in (n := 131) (by decide +kernel) rfl⟩
theorem yv_X12_doAll : yV yX12_doAll cX12_doAll 4 none 2 := ⟨⟨sT_in (n := 2189) (by decide +kernel) rfl, sT_in (n := 149) (by decide +kernel) rfl, by decide +kernel, by decide⟩, sT_in (n := 2188) (by decide +kernel) rfl, sT_in (n := 128) (by decide +kernel) rfl⟩
theorem yv_X12_doOne : yV yX12_doOne cX12_doOne 5 none 1 := ⟨⟨sT_in (n := 2193) (by decide +kernel) rfl, sT_in (n := 149) (by decide +kernel) rfl, by decide +kernel, by decide⟩, sT_in (n := 2192) (by decide +kernel) rfl, sT_in (n := 129) (by decide +kernel) rfl⟩
theorem yv_X12_does : yV yX12_does cX12_does 3 (some .boolean) 1 := ⟨⟨sT_in (n := 2197) (by decide +kernel) rfl, sT_in (n := 149) (by decide +kernel) rfl, by decide +kernel, by decide⟩, sT_in (n := 2196) (by decide +kernel) rfl, sT_in (n := 130) (by decide +kernel) rfl⟩
theorem yv_X12_draw : yV yX12_draw cX12_draw 2 (some .int) 1 := ⟨⟨sT_in (n := 2213) (by decide +kernel) rfl, sT_in (n := 149) (by decide +kernel) rfl, by decide +kernel, by decide⟩, sT_in (n := 2212) (by decide +kernel) rfl, sT_in (n := 134) (by decide +kernel) rfl⟩
theorem yv_X12_isAny : yV yX12_isAny cX12_isAny 1 (some .boolean) 0 := ⟨⟨sT_in (n := 2209) (by decide +kernel) rfl, sT_in (n := 149) (by decide +kernel) rfl, by decide +kernel, by decide⟩, sT_in (n := 2208) (by decide +kernel) rfl, sT_in (n := 133) (by decide +kernel) rfl⟩
theorem yv_X12_isSo : yV yX12_isSo cX12_isSo 4 (some .boolean) 1 := ⟨⟨sT_in (n := 2218) (by decide +kernel) rfl, sT_in (n := 149) (by decide +kernel) rfl, by decide +kernel, by decide⟩, sT_in (n := 2217) (by decide +kernel) rfl, sT_in (n := 135) (by decide +kernel) rfl⟩
theorem yv_X12_isWound : yV yX12_isWound cX12_isWound 3 (some .boolean) 2 := ⟨⟨sT_in (n := 2205) (by decide +kernel) rfl, sT_in (n := 149) (by decide +kernel) rfl, by decide +kernel, by decide⟩, sT_in (n := 2204) (by decide +kernel) rfl, sT_in (n := 132) (by decide +kernel) rfl⟩
/-! ClockRiverModel.wet -/
def X12_wet_J34 (μ : sM) : Option (Int32 × sM) :=
  bI (X12_no 5 μ) fun x1 μ2 =>
    if x1 = 0 ∨ x1 = 1 then some (x1, μ2) else none
theorem X12_wet_J34_ok (μ : sM) : sOk 12 cX12_wet 8 2 true 34 [(0, vr 13 0)] [] μ (oI (X12_wet_J34 μ)) := by
  unfold X12_wet_J34
  refine sBk (lo' := [(0, vr 13 0)]) (st' := [vi 5, vr 13 0]) (μ' := μ) (pc' := 36) [(.aload_n 0, 0, 0, 0, 0), (.iconst 5, 0, 0, 5, 0)] (by decide +kernel) rfl rfl ?_
  refine sCvI oI rfl (ci := 12) (q := (13, 0)) (avs := [vi 5]) (rest := []) (tX12_no 5 μ) (by decide) (by decide +kernel) lk_12_87 yv_X12_no rfl (by decide) rfl rfl rfl (Nat.le_of_ble_eq_true rfl) (fun x1 μ2 => ?_)
  exact sCk oI rfl (fun h => sRi (by decide +kernel) (fun _ => h))
def X12_wet_J68 (k45 : Int32 → Int32 → Int64 → Int32 → sM → Option (Int32 × sM)) (v1 : Int32) (v2 : Int32) (v3 : Int64) (v5 : Int32) (s0 : Int64) (s1 : Int32) (μ : sM) : Option (Int32 × sM) :=
  if inb s1 13 = true then
    k45 v1 v2 v3 (v5 + 1) (wL μ 70 0 (ix s1) s0)
  else none
theorem X12_wet_J68_ok {k45 : Int32 → Int32 → Int64 → Int32 → sM → Option (Int32 × sM)} (hk45 : ∀ (v1 : Int32) (v2 : Int32) (v3 : Int64) (v5 : Int32) (μ : sM), sOk 12 cX12_wet 8 2 true 45 [(0, vr 13 0), (1, vi v1), (2, vi v2), (3, vl v3), (5, vi v5)] [] μ (oI (k45 v1 v2 v3 v5 μ))) (v1 : Int32) (v2 : Int32) (v3 : Int64) (v5 : Int32) (s0 : Int64) (s1 : Int32) (μ : sM) : sOk 12 cX12_wet 8 2 true 68 [(0, vr 13 0), (1, vi v1), (2, vi v2), (3, vl v3), (5, vi v5)] [vl s0, vi s1, vr 70 0] μ (oI (X12_wet_J68 k45 v1 v2 v3 v5 s0 s1 μ)) := by
  unfold X12_wet_J68
  refine sS_las oI rfl (n := 13) (j := (ix s1)) (by decide +kernel) rfl rfl rfl (fun _ => ?_)
  refine sBk (lo' := [(5, vi (v5 + 1)), (0, vr 13 0), (1, vi v1), (2, vi v2), (3, vl v3)]) (st' := []) (μ' := wL μ 70 0 (ix s1) s0) (pc' := 72) [(.iinc 5 1, 0, 0, 1, 0)] (by decide +kernel) rfl rfl ?_
  refine sGt (off := (-27)) (tgt := 45) (by decide +kernel) (by decide) ?_
  refine sWk (lo' := [(0, vr 13 0), (1, vi v1), (2, vi v2), (3, vl v3), (5, vi (v5 + 1))]) [1, 2, 3, 4, 0] rfl ?_
  exact hk45 v1 v2 v3 (v5 + 1) (wL μ 70 0 (ix s1) s0)
def X12_wet_L88 (k78 : Int32 → Int32 → Int64 → Int32 → sM → Option (Int32 × sM)) : Nat → Int32 → Int32 → Int64 → Int32 → Int32 → sM → Option (Int32 × sM)
  | 0, _, _, _, _, _, _ => none
  | n + 1, v1, v2, v3, v5, v6, μ =>
    if v6 ≤ 0 then
      k78 v1 v2 (v3 * 16) (v5 + 1) (wL μ 70 0 0 ((rL μ 70 0 0) * (Int32.toInt64 (16 - (rI μ 61 0 5)))))
    else
      if inb v6 13 = true then
        if inb (v6 - 1) 13 = true then
          if inb v6 13 = true then
            X12_wet_L88 k78 n v1 v2 v3 v5 (v6 + (-1)) (wL μ 70 0 (ix v6) (((rL μ 70 0 (ix v6)) * (Int32.toInt64 (16 - (rI μ 61 0 5)))) + ((rL μ 70 0 (ix (v6 - 1))) * (Int32.toInt64 (rI μ 61 0 5)))))
          else none
        else none
      else none
theorem X12_wet_L88_ok {k78 : Int32 → Int32 → Int64 → Int32 → sM → Option (Int32 × sM)} (hk78 : ∀ (v1 : Int32) (v2 : Int32) (v3 : Int64) (v5 : Int32) (μ : sM), sOk 12 cX12_wet 8 2 true 78 [(0, vr 13 0), (1, vi v1), (2, vi v2), (3, vl v3), (5, vi v5)] [] μ (oI (k78 v1 v2 v3 v5 μ))) : ∀ (n : Nat) (v1 : Int32) (v2 : Int32) (v3 : Int64) (v5 : Int32) (v6 : Int32) (μ : sM), sOk 12 cX12_wet 8 2 true 88 [(0, vr 13 0), (1, vi v1), (2, vi v2), (3, vl v3), (5, vi v5), (6, vi v6)] [] μ (oI (X12_wet_L88 k78 n v1 v2 v3 v5 v6 μ)) := by
  intro n
  induction n with
  | zero =>
    intros
    exact sNo
  | succ n ih =>
    intro v1 v2 v3 v5 v6 μ
    unfold X12_wet_L88
    refine sBk (lo' := [(0, vr 13 0), (1, vi v1), (2, vi v2), (3, vl v3), (5, vi v5), (6, vi v6)]) (st' := [vi v6]) (μ' := μ) (pc' := 90) [(.iload 6, 0, 0, 0, 0)] (by decide +kernel) rfl rfl ?_
    refine sIf_le oI (off := 52) (tgt := 142) (by decide +kernel) (by decide) (fun _ => ?_) (fun _ => ?_)
    · refine sBk (lo' := [(0, vr 13 0), (1, vi v1), (2, vi v2), (3, vl v3), (5, vi v5), (6, vi v6)]) (st' := [vi 0, vr 70 0, vi 0, vr 70 0]) (μ' := μ) (pc' := 148) [(.aload_n 0, 0, 0, 0, 0), (.getfield 62, 12, 38, 0, 0), (.iconst 0, 0, 0, 0, 0), (.dup2, 0, 0, 0, 0)] (by decide +kernel) rfl rfl ?_
      refine sC_lal (n := 13) (j := 0) (by decide +kernel) (by decide +kernel) rfl rfl (by decide +kernel) ?_
      refine sBk (lo' := [(0, vr 13 0), (1, vi v1), (2, vi v2), (3, vl v3), (5, vi v5), (6, vi v6)]) (st' := [vi 5, vr 61 0, vi 16, vl (rL μ 70 0 0), vi 0, vr 70 0]) (μ' := μ) (pc' := 156) [(.bipush 16, 0, 0, 16, 0), (.aload_n 0, 0, 0, 0, 0), (.getfield 35, 12, 20, 0, 0), (.iconst 5, 0, 0, 5, 0)] (by decide +kernel) rfl rfl ?_
      refine sC_ial (n := 1740) (j := 5) (by decide +kernel) (by decide +kernel) rfl rfl (by decide +kernel) ?_
      refine sBk (lo' := [(0, vr 13 0), (1, vi v1), (2, vi v2), (3, vl v3), (5, vi v5), (6, vi v6)]) (st' := [vl ((rL μ 70 0 0) * (Int32.toInt64 (16 - (rI μ 61 0 5)))), vi 0, vr 70 0]) (μ' := μ) (pc' := 160) [(.isub, 0, 0, 0, 0), (.i2l, 0, 0, 0, 0), (.lmul, 0, 0, 0, 0)] (by decide +kernel) rfl rfl ?_
      refine sC_las (n := 13) (j := 0) (by decide +kernel) (by decide +kernel) rfl rfl (by decide +kernel) ?_
      refine sBk (lo' := [(5, vi (v5 + 1)), (3, vl (v3 * 16)), (0, vr 13 0), (1, vi v1), (2, vi v2), (6, vi v6)]) (st' := []) (μ' := wL μ 70 0 0 ((rL μ 70 0 0) * (Int32.toInt64 (16 - (rI μ 61 0 5))))) (pc' := 170) [(.lload_n 3, 0, 0, 0, 0), (.ldc2_w 406, 0, 0, 0, 16), (.lmul, 0, 0, 0, 0), (.lstore_n 3, 0, 0, 0, 0), (.iinc 5 1, 0, 0, 1, 0)] (by decide +kernel) rfl rfl ?_
      refine sGt (off := (-92)) (tgt := 78) (by decide +kernel) (by decide) ?_
      refine sWk (lo' := [(0, vr 13 0), (1, vi v1), (2, vi v2), (3, vl (v3 * 16)), (5, vi (v5 + 1))]) [2, 3, 4, 1, 0] rfl ?_
      exact hk78 v1 v2 (v3 * 16) (v5 + 1) (wL μ 70 0 0 ((rL μ 70 0 0) * (Int32.toInt64 (16 - (rI μ 61 0 5)))))
    · refine sBk (lo' := [(0, vr 13 0), (1, vi v1), (2, vi v2), (3, vl v3), (5, vi v5), (6, vi v6)]) (st' := [vi v6, vr 70 0, vi v6, vr 70 0]) (μ' := μ) (pc' := 105) [(.aload_n 0, 0, 0, 0, 0), (.getfield 62, 12, 38, 0, 0), (.iload 6, 0, 0, 0, 0), (.aload_n 0, 0, 0, 0, 0), (.getfield 62, 12, 38, 0, 0), (.iload 6, 0, 0, 0, 0)] (by decide +kernel) rfl rfl ?_
      refine sS_lal oI rfl (n := 13) (j := (ix v6)) (by decide +kernel) rfl rfl rfl (fun _ => ?_)
      refine sBk (lo' := [(0, vr 13 0), (1, vi v1), (2, vi v2), (3, vl v3), (5, vi v5), (6, vi v6)]) (st' := [vi 5, vr 61 0, vi 16, vl (rL μ 70 0 (ix v6)), vi v6, vr 70 0]) (μ' := μ) (pc' := 113) [(.bipush 16, 0, 0, 16, 0), (.aload_n 0, 0, 0, 0, 0), (.getfield 35, 12, 20, 0, 0), (.iconst 5, 0, 0, 5, 0)] (by decide +kernel) rfl rfl ?_
      refine sC_ial (n := 1740) (j := 5) (by decide +kernel) (by decide +kernel) rfl rfl (by decide +kernel) ?_
      refine sBk (lo' := [(0, vr 13 0), (1, vi v1), (2, vi v2), (3, vl v3), (5, vi v5), (6, vi v6)]) (st' := [vi (v6 - 1), vr 70 0, vl ((rL μ 70 0 (ix v6)) * (Int32.toInt64 (16 - (rI μ 61 0 5)))), vi v6, vr 70 0]) (μ' := μ) (pc' := 125) [(.isub, 0, 0, 0, 0), (.i2l, 0, 0, 0, 0), (.lmul, 0, 0, 0, 0), (.aload_n 0, 0, 0, 0, 0), (.getfield 62, 12, 38, 0, 0), (.iload 6, 0, 0, 0, 0), (.iconst 1, 0, 0, 1, 0), (.isub, 0, 0, 0, 0)] (by decide +kernel) rfl rfl ?_
      refine sS_lal oI rfl (n := 13) (j := (ix (v6 - 1))) (by decide +kernel) rfl rfl rfl (fun _ => ?_)
      refine sBk (lo' := [(0, vr 13 0), (1, vi v1), (2, vi v2), (3, vl v3), (5, vi v5), (6, vi v6)]) (st' := [vi 5, vr 61 0, vl (rL μ 70 0 (ix (v6 - 1))), vl ((rL μ 70 0 (ix v6)) * (Int32.toInt64 (16 - (rI μ 61 0 5)))), vi v6, vr 70 0]) (μ' := μ) (pc' := 131) [(.aload_n 0, 0, 0, 0, 0), (.getfield 35, 12, 20, 0, 0), (.iconst 5, 0, 0, 5, 0)] (by decide +kernel) rfl rfl ?_
      refine sC_ial (n := 1740) (j := 5) (by decide +kernel) (by decide +kernel) rfl rfl (by decide +kernel) ?_
      refine sBk (lo' := [(0, vr 13 0), (1, vi v1), (2, vi v2), (3, vl v3), (5, vi v5), (6, vi v6)]) (st' := [vl (((rL μ 70 0 (ix v6)) * (Int32.toInt64 (16 - (rI μ 61 0 5)))) + ((rL μ 70 0 (ix (v6 - 1))) * (Int32.toInt64 (rI μ 61 0 5)))), vi v6, vr 70 0]) (μ' := μ) (pc' := 135) [(.i2l, 0, 0, 0, 0), (.lmul, 0, 0, 0, 0), (.ladd, 0, 0, 0, 0)] (by decide +kernel) rfl rfl ?_
      refine sS_las oI rfl (n := 13) (j := (ix v6)) (by decide +kernel) rfl rfl rfl (fun _ => ?_)
      refine sBk (lo' := [(6, vi (v6 + (-1))), (0, vr 13 0), (1, vi v1), (2, vi v2), (3, vl v3), (5, vi v5)]) (st' := []) (μ' := wL μ 70 0 (ix v6) (((rL μ 70 0 (ix v6)) * (Int32.toInt64 (16 - (rI μ 61 0 5)))) + ((rL μ 70 0 (ix (v6 - 1))) * (Int32.toInt64 (rI μ 61 0 5))))) (pc' := 139) [(.iinc 6 (-1), 0, 0, (-1), 0)] (by decide +kernel) rfl rfl ?_
      refine sGt (off := (-51)) (tgt := 88) (by decide +kernel) (by decide) ?_
      refine sWk (lo' := [(0, vr 13 0), (1, vi v1), (2, vi v2), (3, vl v3), (5, vi v5), (6, vi (v6 + (-1)))]) [1, 2, 3, 4, 5, 0] rfl ?_
      exact ih v1 v2 v3 v5 (v6 + (-1)) (wL μ 70 0 (ix v6) (((rL μ 70 0 (ix v6)) * (Int32.toInt64 (16 - (rI μ 61 0 5)))) + ((rL μ 70 0 (ix (v6 - 1))) * (Int32.toInt64 (rI μ 61 0 5)))))
def X12_wet_L179 : Nat → Int64 → Int64 → Int32 → sM → Option (Int32 × sM)
  | 0, _, _, _, _ => none
  | n + 1, v3, v5, v7, μ =>
    if 12 < v7 then
      bI (X12_fraction v5 v3 μ) fun x1 μ2 =>
        if x1 = 0 ∨ x1 = 1 then some (x1, μ2) else none
    else
      if inb v7 13 = true then
        X12_wet_L179 n v3 (v5 + (rL μ 70 0 (ix v7))) (v7 + 1) μ
      else none
theorem X12_wet_L179_ok : ∀ (n : Nat) (v3 : Int64) (v5 : Int64) (v7 : Int32) (μ : sM), sOk 12 cX12_wet 8 2 true 179 [(0, vr 13 0), (3, vl v3), (5, vl v5), (7, vi v7)] [] μ (oI (X12_wet_L179 n v3 v5 v7 μ)) := by
  intro n
  induction n with
  | zero =>
    intros
    exact sNo
  | succ n ih =>
    intro v3 v5 v7 μ
    unfold X12_wet_L179
    refine sBk (lo' := [(0, vr 13 0), (3, vl v3), (5, vl v5), (7, vi v7)]) (st' := [vi 12, vi v7]) (μ' := μ) (pc' := 183) [(.iload 7, 0, 0, 0, 0), (.bipush 12, 0, 0, 12, 0)] (by decide +kernel) rfl rfl ?_
    refine sIc_gt oI (off := 21) (tgt := 204) (by decide +kernel) (by decide) (fun _ => ?_) (fun _ => ?_)
    · refine sBk (lo' := [(0, vr 13 0), (3, vl v3), (5, vl v5), (7, vi v7)]) (st' := [vl v3, vl v5, vr 13 0]) (μ' := μ) (pc' := 208) [(.aload_n 0, 0, 0, 0, 0), (.lload 5, 0, 0, 0, 0), (.lload_n 3, 0, 0, 0, 0)] (by decide +kernel) rfl rfl ?_
      refine sCvI oI rfl (ci := 12) (q := (13, 0)) (avs := [vl v5, vl v3]) (rest := []) (tX12_fraction v5 v3 μ) (by decide) (by decide +kernel) lk_12_483 yv_X12_fraction rfl (by decide) rfl rfl rfl (Nat.le_of_ble_eq_true rfl) (fun x1 μ2 => ?_)
      exact sCk oI rfl (fun h => sRi (by decide +kernel) (fun _ => h))
    · refine sBk (lo' := [(0, vr 13 0), (3, vl v3), (5, vl v5), (7, vi v7)]) (st' := [vi v7, vr 70 0, vl v5]) (μ' := μ) (pc' := 194) [(.lload 5, 0, 0, 0, 0), (.aload_n 0, 0, 0, 0, 0), (.getfield 62, 12, 38, 0, 0), (.iload 7, 0, 0, 0, 0)] (by decide +kernel) rfl rfl ?_
      refine sS_lal oI rfl (n := 13) (j := (ix v7)) (by decide +kernel) rfl rfl rfl (fun _ => ?_)
      refine sBk (lo' := [(7, vi (v7 + 1)), (5, vl (v5 + (rL μ 70 0 (ix v7)))), (0, vr 13 0), (3, vl v3)]) (st' := []) (μ' := μ) (pc' := 201) [(.ladd, 0, 0, 0, 0), (.lstore 5, 0, 0, 0, 0), (.iinc 7 1, 0, 0, 1, 0)] (by decide +kernel) rfl rfl ?_
      refine sGt (off := (-22)) (tgt := 179) (by decide +kernel) (by decide) ?_
      refine sWk (lo' := [(0, vr 13 0), (3, vl v3), (5, vl (v5 + (rL μ 70 0 (ix v7)))), (7, vi (v7 + 1))]) [2, 3, 1, 0] rfl ?_
      exact ih v3 (v5 + (rL μ 70 0 (ix v7))) (v7 + 1) μ
def X12_wet_L78 : Nat → Int32 → Int32 → Int64 → Int32 → sM → Option (Int32 × sM)
  | 0, _, _, _, _, _ => none
  | n + 1, v1, v2, v3, v5, μ =>
    if v1 ≤ v5 then
      X12_wet_L179 fuN v3 0 v2 μ
    else
      X12_wet_L88 (X12_wet_L78 n) fuN v1 v2 v3 v5 12 μ
theorem X12_wet_L78_ok : ∀ (n : Nat) (v1 : Int32) (v2 : Int32) (v3 : Int64) (v5 : Int32) (μ : sM), sOk 12 cX12_wet 8 2 true 78 [(0, vr 13 0), (1, vi v1), (2, vi v2), (3, vl v3), (5, vi v5)] [] μ (oI (X12_wet_L78 n v1 v2 v3 v5 μ)) := by
  intro n
  induction n with
  | zero =>
    intros
    exact sNo
  | succ n ih =>
    intro v1 v2 v3 v5 μ
    unfold X12_wet_L78
    refine sBk (lo' := [(0, vr 13 0), (1, vi v1), (2, vi v2), (3, vl v3), (5, vi v5)]) (st' := [vi v1, vi v5]) (μ' := μ) (pc' := 81) [(.iload 5, 0, 0, 0, 0), (.iload_n 1, 0, 0, 0, 0)] (by decide +kernel) rfl rfl ?_
    refine sIc_ge oI (off := 92) (tgt := 173) (by decide +kernel) (by decide) (fun _ => ?_) (fun _ => ?_)
    · refine sBk (lo' := [(7, vi v2), (5, vl 0), (0, vr 13 0), (1, vi v1), (2, vi v2), (3, vl v3)]) (st' := []) (μ' := μ) (pc' := 179) [(.lconst 0, 0, 0, 0, 0), (.lstore 5, 0, 0, 0, 0), (.iload_n 2, 0, 0, 0, 0), (.istore 7, 0, 0, 0, 0)] (by decide +kernel) rfl rfl ?_
      refine sWk (lo' := [(0, vr 13 0), (3, vl v3), (5, vl 0), (7, vi v2)]) [2, 5, 1, 0] rfl ?_
      exact X12_wet_L179_ok fuN v3 0 v2 μ
    · refine sBk (lo' := [(6, vi 12), (0, vr 13 0), (1, vi v1), (2, vi v2), (3, vl v3), (5, vi v5)]) (st' := []) (μ' := μ) (pc' := 88) [(.bipush 12, 0, 0, 12, 0), (.istore 6, 0, 0, 0, 0)] (by decide +kernel) rfl rfl ?_
      refine sWk (lo' := [(0, vr 13 0), (1, vi v1), (2, vi v2), (3, vl v3), (5, vi v5), (6, vi 12)]) [1, 2, 3, 4, 5, 0] rfl ?_
      exact X12_wet_L88_ok ih fuN v1 v2 v3 v5 12 μ
def X12_wet_L45 : Nat → Int32 → Int32 → Int64 → Int32 → sM → Option (Int32 × sM)
  | 0, _, _, _, _, _ => none
  | n + 1, v1, v2, v3, v5, μ =>
    if 12 < v5 then
      X12_wet_L78 fuN v1 v2 v3 0 μ
    else
      if v5 = 0 then
        X12_wet_J68 (X12_wet_L45 n) v1 v2 v3 v5 1 v5 μ
      else
        X12_wet_J68 (X12_wet_L45 n) v1 v2 v3 v5 0 v5 μ
theorem X12_wet_L45_ok : ∀ (n : Nat) (v1 : Int32) (v2 : Int32) (v3 : Int64) (v5 : Int32) (μ : sM), sOk 12 cX12_wet 8 2 true 45 [(0, vr 13 0), (1, vi v1), (2, vi v2), (3, vl v3), (5, vi v5)] [] μ (oI (X12_wet_L45 n v1 v2 v3 v5 μ)) := by
  intro n
  induction n with
  | zero =>
    intros
    exact sNo
  | succ n ih =>
    intro v1 v2 v3 v5 μ
    unfold X12_wet_L45
    refine sBk (lo' := [(0, vr 13 0), (1, vi v1), (2, vi v2), (3, vl v3), (5, vi v5)]) (st' := [vi 12, vi v5]) (μ' := μ) (pc' := 49) [(.iload 5, 0, 0, 0, 0), (.bipush 12, 0, 0, 12, 0)] (by decide +kernel) rfl rfl ?_
    refine sIc_gt oI (off := 26) (tgt := 75) (by decide +kernel) (by decide) (fun _ => ?_) (fun _ => ?_)
    · refine sBk (lo' := [(5, vi 0), (0, vr 13 0), (1, vi v1), (2, vi v2), (3, vl v3)]) (st' := []) (μ' := μ) (pc' := 78) [(.iconst 0, 0, 0, 0, 0), (.istore 5, 0, 0, 0, 0)] (by decide +kernel) rfl rfl ?_
      refine sWk (lo' := [(0, vr 13 0), (1, vi v1), (2, vi v2), (3, vl v3), (5, vi 0)]) [1, 2, 3, 4, 0] rfl ?_
      exact X12_wet_L78_ok fuN v1 v2 v3 0 μ
    · refine sBk (lo' := [(0, vr 13 0), (1, vi v1), (2, vi v2), (3, vl v3), (5, vi v5)]) (st' := [vi v5, vi v5, vr 70 0]) (μ' := μ) (pc' := 60) [(.aload_n 0, 0, 0, 0, 0), (.getfield 62, 12, 38, 0, 0), (.iload 5, 0, 0, 0, 0), (.iload 5, 0, 0, 0, 0)] (by decide +kernel) rfl rfl ?_
      refine sIf_ne oI (off := 7) (tgt := 67) (by decide +kernel) (by decide) (fun _ => ?_) (fun _ => ?_)
      · refine sBk (lo' := [(0, vr 13 0), (1, vi v1), (2, vi v2), (3, vl v3), (5, vi v5)]) (st' := [vl 0, vi v5, vr 70 0]) (μ' := μ) (pc' := 68) [(.lconst 0, 0, 0, 0, 0)] (by decide +kernel) rfl rfl ?_
        exact X12_wet_J68_ok ih v1 v2 v3 v5 0 v5 μ
      · refine sBk (lo' := [(0, vr 13 0), (1, vi v1), (2, vi v2), (3, vl v3), (5, vi v5)]) (st' := [vl 1, vi v5, vr 70 0]) (μ' := μ) (pc' := 64) [(.lconst 1, 0, 0, 0, 1)] (by decide +kernel) rfl rfl ?_
        refine sGt (off := 4) (tgt := 68) (by decide +kernel) (by decide) ?_
        exact X12_wet_J68_ok ih v1 v2 v3 v5 1 v5 μ
def X12_wet (a1 : Int32) (a2 : Int32) (μ : sM) : Option (Int32 × sM) :=
  bI (X12_isIn (Int32.toInt64 a1) 0 12 (wI (wI μ 13 0 1 0) 13 0 0 0)) fun x1 μ2 =>
    if x1 = 0 then
      X12_wet_J34 μ2
    else
      bI (X12_isIn (Int32.toInt64 a2) 0 12 μ2) fun x3 μ4 =>
        if x3 = 0 then
          X12_wet_J34 μ4
        else
          X12_wet_L45 fuN a1 a2 1 0 μ4
theorem tX12_wet (a1 : Int32) (a2 : Int32) (μ : sM) : sMt yX12_wet cX12_wet 8 (some .boolean) 2 [vr 13 0, vi a1, vi a2] μ (oI (X12_wet a1 a2 μ)) := by
  refine sMt_of (own := 12) (bl := true) (by decide +kernel) rfl (Nat.le_of_ble_eq_true rfl) (fun r ρ h => ?_) ?_
  · obtain ⟨q, -, hq⟩ := Option.map_eq_some_iff.mp h
    cases hq
    exact Or.inr ⟨rfl, rfl⟩
  · unfold X12_wet
    show sOk 12 cX12_wet 8 2 true 0 [(0, vr 13 0), (1, vi a1), (2, vi a2)] [] μ _
    refine sBk (lo' := [(0, vr 13 0), (1, vi a1), (2, vi a2)]) (st' := [vl 12, vl 0, vl (Int32.toInt64 a1)]) (μ' := wI (wI μ 13 0 1 0) 13 0 0 0) (pc' := 16) [(.aload_n 0, 0, 0, 0, 0), (.iconst 0, 0, 0, 0, 0), (.putfield 72, 12, 1, 0, 0), (.aload_n 0, 0, 0, 0, 0), (.iconst 0, 0, 0, 0, 0), (.putfield 75, 12, 0, 0, 0), (.iload_n 1, 0, 0, 0, 0), (.i2l, 0, 0, 0, 0), (.lconst 0, 0, 0, 0, 0), (.ldc2_w 323, 0, 0, 0, 12)] (by decide +kernel) rfl rfl ?_
    refine sCsI oI rfl (avs := [vl (Int32.toInt64 a1), vl 0, vl 12]) (rest := []) (tX12_isIn (Int32.toInt64 a1) 0 12 (wI (wI μ 13 0 1 0) 13 0 0 0)) (by decide) (by decide +kernel) lk_12_107 ys_X12_isIn rfl rfl (Nat.le_of_ble_eq_true rfl) (fun x1 μ2 => ?_)
    refine sIf_eq oI (off := 15) (tgt := 34) (by decide +kernel) (by decide) (fun _ => ?_) (fun _ => ?_)
    · refine sWk (lo' := [(0, vr 13 0)]) [0] rfl ?_
      exact X12_wet_J34_ok μ2
    · refine sBk (lo' := [(0, vr 13 0), (1, vi a1), (2, vi a2)]) (st' := [vl 12, vl 0, vl (Int32.toInt64 a2)]) (μ' := μ2) (pc' := 28) [(.iload_n 2, 0, 0, 0, 0), (.i2l, 0, 0, 0, 0), (.lconst 0, 0, 0, 0, 0), (.ldc2_w 323, 0, 0, 0, 12)] (by decide +kernel) rfl rfl ?_
      refine sCsI oI rfl (avs := [vl (Int32.toInt64 a2), vl 0, vl 12]) (rest := []) (tX12_isIn (Int32.toInt64 a2) 0 12 μ2) (by decide) (by decide +kernel) lk_12_107 ys_X12_isIn rfl rfl (Nat.le_of_ble_eq_true rfl) (fun x3 μ4 => ?_)
      refine sIf_ne oI (off := 9) (tgt := 40) (by decide +kernel) (by decide) (fun _ => ?_) (fun _ => ?_)
      · refine sBk (lo' := [(5, vi 0), (3, vl 1), (0, vr 13 0), (1, vi a1), (2, vi a2)]) (st' := []) (μ' := μ4) (pc' := 45) [(.lconst 1, 0, 0, 0, 1), (.lstore_n 3, 0, 0, 0, 0), (.iconst 0, 0, 0, 0, 0), (.istore 5, 0, 0, 0, 0)] (by decide +kernel) rfl rfl ?_
        refine sWk (lo' := [(0, vr 13 0), (1, vi a1), (2, vi a2), (3, vl 1), (5, vi 0)]) [2, 3, 4, 1, 0] rfl ?_
        exact X12_wet_L45_ok fuN a1 a2 1 0 μ4
      · refine sWk (lo' := [(0, vr 13 0)]) [0] rfl ?_
        exact X12_wet_J34_ok μ4
/-! ClockRiverModel.anyHours -/
def X12_anyHours_L19 : Nat → Int32 → Int32 → sM → Option (Int32 × sM)
  | 0, _, _, _ => none
  | n + 1, v1, v2, μ =>
    if v1 ≤ v2 then
      some (1, wI μ 13 0 45 ((rI μ 13 0 45) + v1))
    else
      bI (X12_goesHour μ) fun x1 μ2 =>
        X12_anyHours_L19 n v1 (v2 + 1) (wI μ2 13 0 46 ((rI μ 13 0 46) + x1))
theorem X12_anyHours_L19_ok : ∀ (n : Nat) (v1 : Int32) (v2 : Int32) (μ : sM), sOk 12 cX12_anyHours 3 3 true 19 [(0, vr 13 0), (1, vi v1), (2, vi v2)] [] μ (oI (X12_anyHours_L19 n v1 v2 μ)) := by
  intro n
  induction n with
  | zero =>
    intros
    exact sNo
  | succ n ih =>
    intro v1 v2 μ
    unfold X12_anyHours_L19
    refine sBk (lo' := [(0, vr 13 0), (1, vi v1), (2, vi v2)]) (st' := [vi v1, vi v2]) (μ' := μ) (pc' := 21) [(.iload_n 2, 0, 0, 0, 0), (.iload_n 1, 0, 0, 0, 0)] (by decide +kernel) rfl rfl ?_
    refine sIc_ge oI (off := 22) (tgt := 43) (by decide +kernel) (by decide) (fun _ => ?_) (fun _ => ?_)
    · refine sBk (lo' := [(0, vr 13 0), (1, vi v1), (2, vi v2)]) (st' := [vi 1]) (μ' := wI μ 13 0 45 ((rI μ 13 0 45) + v1)) (pc' := 54) [(.aload_n 0, 0, 0, 0, 0), (.dup, 0, 0, 0, 0), (.getfield 494, 12, 45, 0, 0), (.iload_n 1, 0, 0, 0, 0), (.iadd, 0, 0, 0, 0), (.putfield 494, 12, 45, 0, 0), (.iconst 1, 0, 0, 1, 0)] (by decide +kernel) rfl rfl ?_
      exact sRi (by decide +kernel) (fun _ => Or.inr rfl)
    · refine sBk (lo' := [(0, vr 13 0), (1, vi v1), (2, vi v2)]) (st' := [vr 13 0, vi (rI μ 13 0 46), vr 13 0]) (μ' := μ) (pc' := 30) [(.aload_n 0, 0, 0, 0, 0), (.dup, 0, 0, 0, 0), (.getfield 491, 12, 46, 0, 0), (.aload_n 0, 0, 0, 0, 0)] (by decide +kernel) rfl rfl ?_
      refine sCvI oI rfl (ci := 12) (q := (13, 0)) (avs := []) (rest := [vi (rI μ 13 0 46), vr 13 0]) (tX12_goesHour μ) (by decide) (by decide +kernel) lk_12_382 yv_X12_goesHour rfl (by decide) rfl rfl rfl (Nat.le_of_ble_eq_true rfl) (fun x1 μ2 => ?_)
      refine sBk (lo' := [(2, vi (v2 + 1)), (0, vr 13 0), (1, vi v1)]) (st' := []) (μ' := wI μ2 13 0 46 ((rI μ 13 0 46) + x1)) (pc' := 40) [(.iadd, 0, 0, 0, 0), (.putfield 491, 12, 46, 0, 0), (.iinc 2 1, 0, 0, 1, 0)] (by decide +kernel) rfl rfl ?_
      refine sGt (off := (-21)) (tgt := 19) (by decide +kernel) (by decide) ?_
      refine sWk (lo' := [(0, vr 13 0), (1, vi v1), (2, vi (v2 + 1))]) [1, 2, 0] rfl ?_
      exact ih v1 (v2 + 1) (wI μ2 13 0 46 ((rI μ 13 0 46) + x1))
def X12_anyHours (a1 : Int32) (μ : sM) : Option (Int32 × sM) :=
  if ((rI μ 61 0 6) + a1) ≤ 9999 then
    X12_anyHours_L19 fuN a1 0 μ
  else
    some (0, μ)
theorem tX12_anyHours (a1 : Int32) (μ : sM) : sMt yX12_anyHours cX12_anyHours 3 (some .boolean) 3 [vr 13 0, vi a1] μ (oI (X12_anyHours a1 μ)) := by
  refine sMt_of (own := 12) (bl := true) (by decide +kernel) rfl (Nat.le_of_ble_eq_true rfl) (fun r ρ h => ?_) ?_
  · obtain ⟨q, -, hq⟩ := Option.map_eq_some_iff.mp h
    cases hq
    exact Or.inr ⟨rfl, rfl⟩
  · unfold X12_anyHours
    show sOk 12 cX12_anyHours 3 3 true 0 [(0, vr 13 0), (1, vi a1)] [] μ _
    refine sBk (lo' := [(0, vr 13 0), (1, vi a1)]) (st' := [vi 6, vr 61 0]) (μ' := μ) (pc' := 6) [(.aload_n 0, 0, 0, 0, 0), (.getfield 35, 12, 20, 0, 0), (.bipush 6, 0, 0, 6, 0)] (by decide +kernel) rfl rfl ?_
    refine sC_ial (n := 1740) (j := 6) (by decide +kernel) (by decide +kernel) rfl rfl (by decide +kernel) ?_
    refine sBk (lo' := [(0, vr 13 0), (1, vi a1)]) (st' := [vi 9999, vi ((rI μ 61 0 6) + a1)]) (μ' := μ) (pc' := 12) [(.iload_n 1, 0, 0, 0, 0), (.iadd, 0, 0, 0, 0), (.sipush 9999, 0, 0, 9999, 0)] (by decide +kernel) rfl rfl ?_
    refine sIc_le oI (off := 5) (tgt := 17) (by decide +kernel) (by decide) (fun _ => ?_) (fun _ => ?_)
    · refine sBk (lo' := [(2, vi 0), (0, vr 13 0), (1, vi a1)]) (st' := []) (μ' := μ) (pc' := 19) [(.iconst 0, 0, 0, 0, 0), (.istore_n 2, 0, 0, 0, 0)] (by decide +kernel) rfl rfl ?_
      refine sWk (lo' := [(0, vr 13 0), (1, vi a1), (2, vi 0)]) [1, 2, 0] rfl ?_
      exact X12_anyHours_L19_ok fuN a1 0 μ
    · refine sBk (lo' := [(0, vr 13 0), (1, vi a1)]) (st' := [vi 0]) (μ' := μ) (pc' := 16) [(.iconst 0, 0, 0, 0, 0)] (by decide +kernel) rfl rfl ?_
      exact sRi (by decide +kernel) (fun _ => Or.inl rfl)
/-! ClockRiverModel.isWound -/
def X12_isWound (a1 : Int32) (a2 : Int32) (μ : sM) : Option (Int32 × sM) :=
  bI (X12_winds a1 a2 μ) fun x1 μ2 =>
    if x1 = 0 then
      some (0, μ2)
    else
      some (1, wI μ2 13 0 47 ((rI μ2 13 0 47) + 1))
theorem tX12_isWound (a1 : Int32) (a2 : Int32) (μ : sM) : sMt yX12_isWound cX12_isWound 3 (some .boolean) 4 [vr 13 0, vi a1, vi a2] μ (oI (X12_isWound a1 a2 μ)) := by
  refine sMt_of (own := 12) (bl := true) (by decide +kernel) rfl (Nat.le_of_ble_eq_true rfl) (fun r ρ h => ?_) ?_
  · obtain ⟨q, -, hq⟩ := Option.map_eq_some_iff.mp h
    cases hq
    exact Or.inr ⟨rfl, rfl⟩
  · unfold X12_isWound
    show sOk 12 cX12_isWound 3 4 true 0 [(0, vr 13 0), (1, vi a1), (2, vi a2)] [] μ _
    refine sBk (lo' := [(0, vr 13 0), (1, vi a1), (2, vi a2)]) (st' := [vi a2, vi a1, vr 13 0]) (μ' := μ) (pc' := 3) [(.aload_n 0, 0, 0, 0, 0), (.iload_n 1, 0, 0, 0, 0), (.iload_n 2, 0, 0, 0, 0)] (by decide +kernel) rfl rfl ?_
    refine sCvI oI rfl (ci := 12) (q := (13, 0)) (avs := [vi a1, vi a2]) (rest := []) (tX12_winds a1 a2 μ) (by decide) (by decide +kernel) lk_12_391 yv_X12_winds rfl (by decide) rfl rfl rfl (Nat.le_of_ble_eq_true rfl) (fun x1 μ2 => ?_)
    refine sIf_ne oI (off := 5) (tgt := 11) (by decide +kernel) (by decide) (fun _ => ?_) (fun _ => ?_)
    · refine sBk (lo' := [(0, vr 13 0), (1, vi a1), (2, vi a2)]) (st' := [vi 1]) (μ' := wI μ2 13 0 47 ((rI μ2 13 0 47) + 1)) (pc' := 22) [(.aload_n 0, 0, 0, 0, 0), (.dup, 0, 0, 0, 0), (.getfield 497, 12, 47, 0, 0), (.iconst 1, 0, 0, 1, 0), (.iadd, 0, 0, 0, 0), (.putfield 497, 12, 47, 0, 0), (.iconst 1, 0, 0, 1, 0)] (by decide +kernel) rfl rfl ?_
      exact sRi (by decide +kernel) (fun _ => Or.inr rfl)
    · refine sBk (lo' := [(0, vr 13 0), (1, vi a1), (2, vi a2)]) (st' := [vi 0]) (μ' := μ2) (pc' := 10) [(.iconst 0, 0, 0, 0, 0)] (by decide +kernel) rfl rfl ?_
      exact sRi (by decide +kernel) (fun _ => Or.inl rfl)
/-! ClockRiverModel.draw -/
def X12_draw (a1 : Int32) (μ : sM) : Option (Int32 × sM) :=
  if a1 = 0 then none else
    some ((irm ((irm (((rI μ 13 0 42) * 2971) + 10799) 65536) / 8) a1), wI μ 13 0 42 (irm (((rI μ 13 0 42) * 2971) + 10799) 65536))
theorem tX12_draw (a1 : Int32) (μ : sM) : sMt yX12_draw cX12_draw 2 (some .int) 1 [vr 13 0, vi a1] μ (oI (X12_draw a1 μ)) := by
  refine sMt_of (own := 12) (bl := false) (by decide +kernel) rfl (Nat.le_of_ble_eq_true rfl) (fun r ρ h => ?_) ?_
  · obtain ⟨q, -, hq⟩ := Option.map_eq_some_iff.mp h
    cases hq
    exact Or.inl rfl
  · unfold X12_draw
    show sOk 12 cX12_draw 2 1 false 0 [(0, vr 13 0), (1, vi a1)] [] μ _
    refine sBk (lo' := [(0, vr 13 0), (1, vi a1)]) (st' := [vi 65536, vi (((rI μ 13 0 42) * 2971) + 10799), vr 13 0]) (μ' := μ) (pc' := 16) [(.aload_n 0, 0, 0, 0, 0), (.aload_n 0, 0, 0, 0, 0), (.getfield 487, 12, 42, 0, 0), (.sipush 2971, 0, 0, 2971, 0), (.imul, 0, 0, 0, 0), (.sipush 10799, 0, 0, 10799, 0), (.iadd, 0, 0, 0, 0), (.ldc_w 490, 0, 0, 65536, 0)] (by decide +kernel) rfl rfl ?_
    refine sC_irm (by decide +kernel) (by decide +kernel) ?_
    refine sBk (lo' := [(0, vr 13 0), (1, vi a1)]) (st' := [vi 8, vi (irm (((rI μ 13 0 42) * 2971) + 10799) 65536)]) (μ' := wI μ 13 0 42 (irm (((rI μ 13 0 42) * 2971) + 10799) 65536)) (pc' := 26) [(.putfield 487, 12, 42, 0, 0), (.aload_n 0, 0, 0, 0, 0), (.getfield 487, 12, 42, 0, 0), (.bipush 8, 0, 0, 8, 0)] (by decide +kernel) rfl rfl ?_
    refine sC_idv (by decide +kernel) (by decide +kernel) ?_
    refine sBk (lo' := [(0, vr 13 0), (1, vi a1)]) (st' := [vi a1, vi ((irm (((rI μ 13 0 42) * 2971) + 10799) 65536) / 8)]) (μ' := wI μ 13 0 42 (irm (((rI μ 13 0 42) * 2971) + 10799) 65536)) (pc' := 28) [(.iload_n 1, 0, 0, 0, 0)] (by decide +kernel) rfl rfl ?_
    refine sS_irm oI rfl (by decide +kernel) (fun _ => ?_)
    exact sRi (by decide +kernel) (fun h => by cases h)
/-! ClockRiverModel.isAny -/
def X12_isAny_J37 (s0 : Int32) (s1 : Int32) (μ : sM) : Option (Int32 × sM) :=
  if inb s1 1740 = true then
    bI (X12_draw (rI (wI μ 61 0 (ix s1) s0) 61 0 2) (wI μ 61 0 (ix s1) s0)) fun x1 μ2 =>
      bI (X12_isWound x1 0 μ2) fun x3 μ4 =>
        if x3 = 0 ∨ x3 = 1 then some (x3, μ4) else none
  else none
theorem X12_isAny_J37_ok (s0 : Int32) (s1 : Int32) (μ : sM) : sOk 12 cX12_isAny 1 5 true 37 [(0, vr 13 0)] [vi s0, vi s1, vr 61 0] μ (oI (X12_isAny_J37 s0 s1 μ)) := by
  unfold X12_isAny_J37
  refine sS_ias oI rfl (n := 1740) (j := (ix s1)) (by decide +kernel) rfl rfl rfl (fun _ => ?_)
  refine sBk (lo' := [(0, vr 13 0)]) (st' := [vi 2, vr 61 0, vr 13 0, vr 13 0]) (μ' := wI μ 61 0 (ix s1) s0) (pc' := 45) [(.aload_n 0, 0, 0, 0, 0), (.aload_n 0, 0, 0, 0, 0), (.aload_n 0, 0, 0, 0, 0), (.getfield 35, 12, 20, 0, 0), (.iconst 2, 0, 0, 2, 0)] (by decide +kernel) rfl rfl ?_
  refine sC_ial (n := 1740) (j := 2) (by decide +kernel) (by decide +kernel) rfl rfl (by decide +kernel) ?_
  refine sCvI oI rfl (ci := 12) (q := (13, 0)) (avs := [vi (rI (wI μ 61 0 (ix s1) s0) 61 0 2)]) (rest := [vr 13 0]) (tX12_draw (rI (wI μ 61 0 (ix s1) s0) 61 0 2) (wI μ 61 0 (ix s1) s0)) (by decide) (by decide +kernel) lk_12_500 yv_X12_draw rfl (by decide) rfl rfl rfl (Nat.le_of_ble_eq_true rfl) (fun x1 μ2 => ?_)
  refine sBk (lo' := [(0, vr 13 0)]) (st' := [vi 0, vi x1, vr 13 0]) (μ' := μ2) (pc' := 50) [(.iconst 0, 0, 0, 0, 0)] (by decide +kernel) rfl rfl ?_
  refine sCvI oI rfl (ci := 12) (q := (13, 0)) (avs := [vi x1, vi 0]) (rest := []) (tX12_isWound x1 0 μ2) (by decide) (by decide +kernel) lk_12_503 yv_X12_isWound rfl (by decide) rfl rfl rfl (Nat.le_of_ble_eq_true rfl) (fun x3 μ4 => ?_)
  exact sCk oI rfl (fun h => sRi (by decide +kernel) (fun _ => h))
def X12_isAny (μ : sM) : Option (Int32 × sM) :=
  if (rI μ 61 0 2) = 0 then
    some (0, μ)
  else
    bI (X12_draw 16 μ) fun x1 μ2 =>
      if (rI μ2 61 0 5) ≤ x1 then
        X12_isAny_J37 0 7 μ2
      else
        X12_isAny_J37 1 7 μ2
theorem tX12_isAny (μ : sM) : sMt yX12_isAny cX12_isAny 1 (some .boolean) 5 [vr 13 0] μ (oI (X12_isAny μ)) := by
  refine sMt_of (own := 12) (bl := true) (by decide +kernel) rfl (Nat.le_of_ble_eq_true rfl) (fun r ρ h => ?_) ?_
  · obtain ⟨q, -, hq⟩ := Option.map_eq_some_iff.mp h
    cases hq
    exact Or.inr ⟨rfl, rfl⟩
  · unfold X12_isAny
    show sOk 12 cX12_isAny 1 5 true 0 [(0, vr 13 0)] [] μ _
    refine sBk (lo' := [(0, vr 13 0)]) (st' := [vi 2, vr 61 0]) (μ' := μ) (pc' := 5) [(.aload_n 0, 0, 0, 0, 0), (.getfield 35, 12, 20, 0, 0), (.iconst 2, 0, 0, 2, 0)] (by decide +kernel) rfl rfl ?_
    refine sC_ial (n := 1740) (j := 2) (by decide +kernel) (by decide +kernel) rfl rfl (by decide +kernel) ?_
    refine sIf_ne oI (off := 5) (tgt := 11) (by decide +kernel) (by decide) (fun _ => ?_) (fun _ => ?_)
    · refine sBk (lo' := [(0, vr 13 0)]) (st' := [vi 16, vr 13 0, vi 7, vr 61 0]) (μ' := μ) (pc' := 20) [(.aload_n 0, 0, 0, 0, 0), (.getfield 35, 12, 20, 0, 0), (.bipush 7, 0, 0, 7, 0), (.aload_n 0, 0, 0, 0, 0), (.bipush 16, 0, 0, 16, 0)] (by decide +kernel) rfl rfl ?_
      refine sCvI oI rfl (ci := 12) (q := (13, 0)) (avs := [vi 16]) (rest := [vi 7, vr 61 0]) (tX12_draw 16 μ) (by decide) (by decide +kernel) lk_12_500 yv_X12_draw rfl (by decide) rfl rfl rfl (Nat.le_of_ble_eq_true rfl) (fun x1 μ2 => ?_)
      refine sBk (lo' := [(0, vr 13 0)]) (st' := [vi 5, vr 61 0, vi x1, vi 7, vr 61 0]) (μ' := μ2) (pc' := 28) [(.aload_n 0, 0, 0, 0, 0), (.getfield 35, 12, 20, 0, 0), (.iconst 5, 0, 0, 5, 0)] (by decide +kernel) rfl rfl ?_
      refine sC_ial (n := 1740) (j := 5) (by decide +kernel) (by decide +kernel) rfl rfl (by decide +kernel) ?_
      refine sIc_ge oI (off := 7) (tgt := 36) (by decide +kernel) (by decide) (fun _ => ?_) (fun _ => ?_)
      · refine sBk (lo' := [(0, vr 13 0)]) (st' := [vi 0, vi 7, vr 61 0]) (μ' := μ2) (pc' := 37) [(.iconst 0, 0, 0, 0, 0)] (by decide +kernel) rfl rfl ?_
        exact X12_isAny_J37_ok 0 7 μ2
      · refine sBk (lo' := [(0, vr 13 0)]) (st' := [vi 1, vi 7, vr 61 0]) (μ' := μ2) (pc' := 33) [(.iconst 1, 0, 0, 1, 0)] (by decide +kernel) rfl rfl ?_
        refine sGt (off := 4) (tgt := 37) (by decide +kernel) (by decide) ?_
        exact X12_isAny_J37_ok 1 7 μ2
    · refine sBk (lo' := [(0, vr 13 0)]) (st' := [vi 0]) (μ' := μ) (pc' := 10) [(.iconst 0, 0, 0, 0, 0)] (by decide +kernel) rfl rfl ?_
      exact sRi (by decide +kernel) (fun _ => Or.inl rfl)
/-! ClockRiverModel.does -/
def X12_does_J55 (s0 : Int32) (s1 : Int32) (μ : sM) : Option (Int32 × sM) :=
  bI (X12_isWound s1 s0 μ) fun x1 μ2 =>
    if x1 = 0 ∨ x1 = 1 then some (x1, μ2) else none
theorem X12_does_J55_ok (s0 : Int32) (s1 : Int32) (μ : sM) : sOk 12 cX12_does 3 6 true 55 [] [vi s0, vi s1, vr 13 0] μ (oI (X12_does_J55 s0 s1 μ)) := by
  unfold X12_does_J55
  refine sCvI oI rfl (ci := 12) (q := (13, 0)) (avs := [vi s1, vi s0]) (rest := []) (tX12_isWound s1 s0 μ) (by decide) (by decide +kernel) lk_12_503 yv_X12_isWound rfl (by decide) rfl rfl rfl (Nat.le_of_ble_eq_true rfl) (fun x1 μ2 => ?_)
  exact sCk oI rfl (fun h => sRi (by decide +kernel) (fun _ => h))
def X12_does_J117 (s0 : Int32) (s1 : Int32) (μ : sM) : Option (Int32 × sM) :=
  bI (X12_becomes s1 s0 μ) fun x1 μ2 =>
    if x1 = 0 ∨ x1 = 1 then some (x1, μ2) else none
theorem X12_does_J117_ok (s0 : Int32) (s1 : Int32) (μ : sM) : sOk 12 cX12_does 3 6 true 117 [] [vi s0, vi s1, vr 13 0] μ (oI (X12_does_J117 s0 s1 μ)) := by
  unfold X12_does_J117
  refine sCvI oI rfl (ci := 12) (q := (13, 0)) (avs := [vi s1, vi s0]) (rest := []) (tX12_becomes s1 s0 μ) (by decide) (by decide +kernel) lk_12_397 yv_X12_becomes rfl (by decide) rfl rfl rfl (Nat.le_of_ble_eq_true rfl) (fun x1 μ2 => ?_)
  exact sCk oI rfl (fun h => sRi (by decide +kernel) (fun _ => h))
def X12_does (a1 : Int32) (μ : sM) : Option (Int32 × sM) :=
  if inb a1 1740 = true then
    if (rI μ 61 0 (ix a1)) = 0 then
      if inb (a1 + 1) 1740 = true then
        bI (X12_anyHours (rI μ 61 0 (ix (a1 + 1))) μ) fun x5 μ6 =>
          if x5 = 0 ∨ x5 = 1 then some (x5, μ6) else none
      else none
    else
      if (rI μ 61 0 (ix a1)) = 1 then
        if inb (a1 + 1) 1740 = true then
          if inb (a1 + 2) 1740 = true then
            if (rI μ 61 0 (ix (a1 + 2))) = 1 then
              X12_does_J55 1 (rI μ 61 0 (ix (a1 + 1))) μ
            else
              X12_does_J55 0 (rI μ 61 0 (ix (a1 + 1))) μ
          else none
        else none
      else
        if (rI μ 61 0 (ix a1)) = 3 then
          if inb (a1 + 1) 1740 = true then
            if inb (a1 + 2) 1740 = true then
              bI (X12_becomes (22 + (rI μ 61 0 (ix (a1 + 1)))) (rI μ 61 0 (ix (a1 + 2))) μ) fun x3 μ4 =>
                if x3 = 0 ∨ x3 = 1 then some (x3, μ4) else none
            else none
          else none
        else
          if (rI μ 61 0 (ix a1)) = 6 then
            bI (X12_isAny μ) fun x1 μ2 =>
              if x1 = 0 ∨ x1 = 1 then some (x1, μ2) else none
          else
            if (rI μ 61 0 (ix a1)) = 2 then
              some (1, wI μ 61 0 8 12)
            else
              if (rI μ 61 0 (ix a1)) = 4 then
                X12_does_J117 1 7 μ
              else
                X12_does_J117 0 7 μ
  else none
theorem tX12_does (a1 : Int32) (μ : sM) : sMt yX12_does cX12_does 3 (some .boolean) 6 [vr 13 0, vi a1] μ (oI (X12_does a1 μ)) := by
  refine sMt_of (own := 12) (bl := true) (by decide +kernel) rfl (Nat.le_of_ble_eq_true rfl) (fun r ρ h => ?_) ?_
  · obtain ⟨q, -, hq⟩ := Option.map_eq_some_iff.mp h
    cases hq
    exact Or.inr ⟨rfl, rfl⟩
  · unfold X12_does
    show sOk 12 cX12_does 3 6 true 0 [(0, vr 13 0), (1, vi a1)] [] μ _
    refine sBk (lo' := [(0, vr 13 0), (1, vi a1)]) (st' := [vi a1, vr 61 0]) (μ' := μ) (pc' := 5) [(.aload_n 0, 0, 0, 0, 0), (.getfield 35, 12, 20, 0, 0), (.iload_n 1, 0, 0, 0, 0)] (by decide +kernel) rfl rfl ?_
    refine sS_ial oI rfl (n := 1740) (j := (ix a1)) (by decide +kernel) rfl rfl rfl (fun _ => ?_)
    refine sBk (lo' := [(2, vi (rI μ 61 0 (ix a1))), (0, vr 13 0), (1, vi a1)]) (st' := [vi (rI μ 61 0 (ix a1))]) (μ' := μ) (pc' := 8) [(.istore_n 2, 0, 0, 0, 0), (.iload_n 2, 0, 0, 0, 0)] (by decide +kernel) rfl rfl ?_
    refine sIf_ne oI (off := 16) (tgt := 24) (by decide +kernel) (by decide) (fun _ => ?_) (fun _ => ?_)
    · refine sBk (lo' := [(2, vi (rI μ 61 0 (ix a1))), (0, vr 13 0), (1, vi a1)]) (st' := [vi 1, vi (rI μ 61 0 (ix a1))]) (μ' := μ) (pc' := 26) [(.iload_n 2, 0, 0, 0, 0), (.iconst 1, 0, 0, 1, 0)] (by decide +kernel) rfl rfl ?_
      refine sIc_ne oI (off := 33) (tgt := 59) (by decide +kernel) (by decide) (fun _ => ?_) (fun _ => ?_)
      · refine sBk (lo' := [(2, vi (rI μ 61 0 (ix a1))), (0, vr 13 0), (1, vi a1)]) (st' := [vi 3, vi (rI μ 61 0 (ix a1))]) (μ' := μ) (pc' := 61) [(.iload_n 2, 0, 0, 0, 0), (.iconst 3, 0, 0, 3, 0)] (by decide +kernel) rfl rfl ?_
        refine sIc_ne oI (off := 27) (tgt := 88) (by decide +kernel) (by decide) (fun _ => ?_) (fun _ => ?_)
        · refine sBk (lo' := [(2, vi (rI μ 61 0 (ix a1))), (0, vr 13 0), (1, vi a1)]) (st' := [vi 6, vi (rI μ 61 0 (ix a1))]) (μ' := μ) (pc' := 91) [(.iload_n 2, 0, 0, 0, 0), (.bipush 6, 0, 0, 6, 0)] (by decide +kernel) rfl rfl ?_
          refine sIc_ne oI (off := 8) (tgt := 99) (by decide +kernel) (by decide) (fun _ => ?_) (fun _ => ?_)
          · refine sBk (lo' := [(2, vi (rI μ 61 0 (ix a1))), (0, vr 13 0), (1, vi a1)]) (st' := [vi 2, vi (rI μ 61 0 (ix a1))]) (μ' := μ) (pc' := 101) [(.iload_n 2, 0, 0, 0, 0), (.iconst 2, 0, 0, 2, 0)] (by decide +kernel) rfl rfl ?_
            refine sIc_eq oI (off := 20) (tgt := 121) (by decide +kernel) (by decide) (fun _ => ?_) (fun _ => ?_)
            · refine sBk (lo' := [(2, vi (rI μ 61 0 (ix a1))), (0, vr 13 0), (1, vi a1)]) (st' := [vi 12, vi 8, vr 61 0]) (μ' := μ) (pc' := 129) [(.aload_n 0, 0, 0, 0, 0), (.getfield 35, 12, 20, 0, 0), (.bipush 8, 0, 0, 8, 0), (.bipush 12, 0, 0, 12, 0)] (by decide +kernel) rfl rfl ?_
              refine sC_ias (n := 1740) (j := 8) (by decide +kernel) (by decide +kernel) rfl rfl (by decide +kernel) ?_
              refine sBk (lo' := [(2, vi (rI μ 61 0 (ix a1))), (0, vr 13 0), (1, vi a1)]) (st' := [vi 1]) (μ' := wI μ 61 0 8 12) (pc' := 131) [(.iconst 1, 0, 0, 1, 0)] (by decide +kernel) rfl rfl ?_
              exact sRi (by decide +kernel) (fun _ => Or.inr rfl)
            · refine sBk (lo' := [(2, vi (rI μ 61 0 (ix a1))), (0, vr 13 0), (1, vi a1)]) (st' := [vi 4, vi (rI μ 61 0 (ix a1)), vi 7, vr 13 0]) (μ' := μ) (pc' := 109) [(.aload_n 0, 0, 0, 0, 0), (.bipush 7, 0, 0, 7, 0), (.iload_n 2, 0, 0, 0, 0), (.iconst 4, 0, 0, 4, 0)] (by decide +kernel) rfl rfl ?_
              refine sIc_ne oI (off := 7) (tgt := 116) (by decide +kernel) (by decide) (fun _ => ?_) (fun _ => ?_)
              · refine sBk (lo' := [(2, vi (rI μ 61 0 (ix a1))), (0, vr 13 0), (1, vi a1)]) (st' := [vi 0, vi 7, vr 13 0]) (μ' := μ) (pc' := 117) [(.iconst 0, 0, 0, 0, 0)] (by decide +kernel) rfl rfl ?_
                refine sWk (lo' := []) [] rfl ?_
                exact X12_does_J117_ok 0 7 μ
              · refine sBk (lo' := [(2, vi (rI μ 61 0 (ix a1))), (0, vr 13 0), (1, vi a1)]) (st' := [vi 1, vi 7, vr 13 0]) (μ' := μ) (pc' := 113) [(.iconst 1, 0, 0, 1, 0)] (by decide +kernel) rfl rfl ?_
                refine sGt (off := 4) (tgt := 117) (by decide +kernel) (by decide) ?_
                refine sWk (lo' := []) [] rfl ?_
                exact X12_does_J117_ok 1 7 μ
          · refine sBk (lo' := [(2, vi (rI μ 61 0 (ix a1))), (0, vr 13 0), (1, vi a1)]) (st' := [vr 13 0]) (μ' := μ) (pc' := 95) [(.aload_n 0, 0, 0, 0, 0)] (by decide +kernel) rfl rfl ?_
            refine sCvI oI rfl (ci := 12) (q := (13, 0)) (avs := []) (rest := []) (tX12_isAny μ) (by decide) (by decide +kernel) lk_12_509 yv_X12_isAny rfl (by decide) rfl rfl rfl (Nat.le_of_ble_eq_true rfl) (fun x1 μ2 => ?_)
            exact sCk oI rfl (fun h => sRi (by decide +kernel) (fun _ => h))
        · refine sBk (lo' := [(2, vi (rI μ 61 0 (ix a1))), (0, vr 13 0), (1, vi a1)]) (st' := [vi (a1 + 1), vr 61 0, vi 22, vr 13 0]) (μ' := μ) (pc' := 74) [(.aload_n 0, 0, 0, 0, 0), (.bipush 22, 0, 0, 22, 0), (.aload_n 0, 0, 0, 0, 0), (.getfield 35, 12, 20, 0, 0), (.iload_n 1, 0, 0, 0, 0), (.iconst 1, 0, 0, 1, 0), (.iadd, 0, 0, 0, 0)] (by decide +kernel) rfl rfl ?_
          refine sS_ial oI rfl (n := 1740) (j := (ix (a1 + 1))) (by decide +kernel) rfl rfl rfl (fun _ => ?_)
          refine sBk (lo' := [(2, vi (rI μ 61 0 (ix a1))), (0, vr 13 0), (1, vi a1)]) (st' := [vi (a1 + 2), vr 61 0, vi (22 + (rI μ 61 0 (ix (a1 + 1)))), vr 13 0]) (μ' := μ) (pc' := 83) [(.iadd, 0, 0, 0, 0), (.aload_n 0, 0, 0, 0, 0), (.getfield 35, 12, 20, 0, 0), (.iload_n 1, 0, 0, 0, 0), (.iconst 2, 0, 0, 2, 0), (.iadd, 0, 0, 0, 0)] (by decide +kernel) rfl rfl ?_
          refine sS_ial oI rfl (n := 1740) (j := (ix (a1 + 2))) (by decide +kernel) rfl rfl rfl (fun _ => ?_)
          refine sCvI oI rfl (ci := 12) (q := (13, 0)) (avs := [vi (22 + (rI μ 61 0 (ix (a1 + 1)))), vi (rI μ 61 0 (ix (a1 + 2)))]) (rest := []) (tX12_becomes (22 + (rI μ 61 0 (ix (a1 + 1)))) (rI μ 61 0 (ix (a1 + 2))) μ) (by decide) (by decide +kernel) lk_12_397 yv_X12_becomes rfl (by decide) rfl rfl rfl (Nat.le_of_ble_eq_true rfl) (fun x3 μ4 => ?_)
          exact sCk oI rfl (fun h => sRi (by decide +kernel) (fun _ => h))
      · refine sBk (lo' := [(2, vi (rI μ 61 0 (ix a1))), (0, vr 13 0), (1, vi a1)]) (st' := [vi (a1 + 1), vr 61 0, vr 13 0]) (μ' := μ) (pc' := 37) [(.aload_n 0, 0, 0, 0, 0), (.aload_n 0, 0, 0, 0, 0), (.getfield 35, 12, 20, 0, 0), (.iload_n 1, 0, 0, 0, 0), (.iconst 1, 0, 0, 1, 0), (.iadd, 0, 0, 0, 0)] (by decide +kernel) rfl rfl ?_
        refine sS_ial oI rfl (n := 1740) (j := (ix (a1 + 1))) (by decide +kernel) rfl rfl rfl (fun _ => ?_)
        refine sBk (lo' := [(2, vi (rI μ 61 0 (ix a1))), (0, vr 13 0), (1, vi a1)]) (st' := [vi (a1 + 2), vr 61 0, vi (rI μ 61 0 (ix (a1 + 1))), vr 13 0]) (μ' := μ) (pc' := 45) [(.aload_n 0, 0, 0, 0, 0), (.getfield 35, 12, 20, 0, 0), (.iload_n 1, 0, 0, 0, 0), (.iconst 2, 0, 0, 2, 0), (.iadd, 0, 0, 0, 0)] (by decide +kernel) rfl rfl ?_
        refine sS_ial oI rfl (n := 1740) (j := (ix (a1 + 2))) (by decide +kernel) rfl rfl rfl (fun _ => ?_)
        refine sBk (lo' := [(2, vi (rI μ 61 0 (ix a1))), (0, vr 13 0), (1, vi a1)]) (st' := [vi 1, vi (rI μ 61 0 (ix (a1 + 2))), vi (rI μ 61 0 (ix (a1 + 1))), vr 13 0]) (μ' := μ) (pc' := 47) [(.iconst 1, 0, 0, 1, 0)] (by decide +kernel) rfl rfl ?_
        refine sIc_ne oI (off := 7) (tgt := 54) (by decide +kernel) (by decide) (fun _ => ?_) (fun _ => ?_)
        · refine sBk (lo' := [(2, vi (rI μ 61 0 (ix a1))), (0, vr 13 0), (1, vi a1)]) (st' := [vi 0, vi (rI μ 61 0 (ix (a1 + 1))), vr 13 0]) (μ' := μ) (pc' := 55) [(.iconst 0, 0, 0, 0, 0)] (by decide +kernel) rfl rfl ?_
          refine sWk (lo' := []) [] rfl ?_
          exact X12_does_J55_ok 0 (rI μ 61 0 (ix (a1 + 1))) μ
        · refine sBk (lo' := [(2, vi (rI μ 61 0 (ix a1))), (0, vr 13 0), (1, vi a1)]) (st' := [vi 1, vi (rI μ 61 0 (ix (a1 + 1))), vr 13 0]) (μ' := μ) (pc' := 51) [(.iconst 1, 0, 0, 1, 0)] (by decide +kernel) rfl rfl ?_
          refine sGt (off := 4) (tgt := 55) (by decide +kernel) (by decide) ?_
          refine sWk (lo' := []) [] rfl ?_
          exact X12_does_J55_ok 1 (rI μ 61 0 (ix (a1 + 1))) μ
    · refine sBk (lo' := [(2, vi (rI μ 61 0 (ix a1))), (0, vr 13 0), (1, vi a1)]) (st' := [vi (a1 + 1), vr 61 0, vr 13 0]) (μ' := μ) (pc' := 19) [(.aload_n 0, 0, 0, 0, 0), (.aload_n 0, 0, 0, 0, 0), (.getfield 35, 12, 20, 0, 0), (.iload_n 1, 0, 0, 0, 0), (.iconst 1, 0, 0, 1, 0), (.iadd, 0, 0, 0, 0)] (by decide +kernel) rfl rfl ?_
      refine sS_ial oI rfl (n := 1740) (j := (ix (a1 + 1))) (by decide +kernel) rfl rfl rfl (fun _ => ?_)
      refine sCvI oI rfl (ci := 12) (q := (13, 0)) (avs := [vi (rI μ 61 0 (ix (a1 + 1)))]) (rest := []) (tX12_anyHours (rI μ 61 0 (ix (a1 + 1))) μ) (by decide) (by decide +kernel) lk_12_506 yv_X12_anyHours rfl (by decide) rfl rfl rfl (Nat.le_of_ble_eq_true rfl) (fun x5 μ6 => ?_)
      exact sCk oI rfl (fun h => sRi (by decide +kernel) (fun _ => h))
/-! ClockRiverModel.isSo -/
def X12_isSo_J47 (v1 : Int32) (s0 : Int32) (μ : sM) : Option (Int32 × sM) :=
  if inb (v1 + 1) 1740 = true then
    if inb (s0 + (rI μ 61 0 (ix (v1 + 1)))) 1740 = true then
      if inb (v1 + 7) 1740 = true then
        if (rI μ 61 0 (ix (v1 + 7))) = 60 then
          if inb (v1 + 2) 1740 = true then
            if (rI μ 61 0 (ix (v1 + 2))) ≤ (rI μ 61 0 (ix (s0 + (rI μ 61 0 (ix (v1 + 1)))))) then
              some (0, μ)
            else
              some (1, μ)
          else none
        else
          if inb (v1 + 7) 1740 = true then
            if (rI μ 61 0 (ix (v1 + 7))) = 62 then
              if inb (v1 + 2) 1740 = true then
                if (rI μ 61 0 (ix (s0 + (rI μ 61 0 (ix (v1 + 1)))))) ≤ (rI μ 61 0 (ix (v1 + 2))) then
                  some (0, μ)
                else
                  some (1, μ)
              else none
            else
              if inb (v1 + 2) 1740 = true then
                if (rI μ 61 0 (ix (s0 + (rI μ 61 0 (ix (v1 + 1)))))) = (rI μ 61 0 (ix (v1 + 2))) then
                  some (1, μ)
                else
                  some (0, μ)
              else none
          else none
      else none
    else none
  else none
theorem X12_isSo_J47_ok (v1 : Int32) (s0 : Int32) (μ : sM) : sOk 12 cX12_isSo 4 1 true 47 [(0, vr 13 0), (1, vi v1)] [vi s0, vr 61 0] μ (oI (X12_isSo_J47 v1 s0 μ)) := by
  unfold X12_isSo_J47
  refine sBk (lo' := [(0, vr 13 0), (1, vi v1)]) (st' := [vi (v1 + 1), vr 61 0, vi s0, vr 61 0]) (μ' := μ) (pc' := 54) [(.aload_n 0, 0, 0, 0, 0), (.getfield 35, 12, 20, 0, 0), (.iload_n 1, 0, 0, 0, 0), (.iconst 1, 0, 0, 1, 0), (.iadd, 0, 0, 0, 0)] (by decide +kernel) rfl rfl ?_
  refine sS_ial oI rfl (n := 1740) (j := (ix (v1 + 1))) (by decide +kernel) rfl rfl rfl (fun _ => ?_)
  refine sBk (lo' := [(0, vr 13 0), (1, vi v1)]) (st' := [vi (s0 + (rI μ 61 0 (ix (v1 + 1)))), vr 61 0]) (μ' := μ) (pc' := 56) [(.iadd, 0, 0, 0, 0)] (by decide +kernel) rfl rfl ?_
  refine sS_ial oI rfl (n := 1740) (j := (ix (s0 + (rI μ 61 0 (ix (v1 + 1)))))) (by decide +kernel) rfl rfl rfl (fun _ => ?_)
  refine sBk (lo' := [(3, vi (rI μ 61 0 (ix (s0 + (rI μ 61 0 (ix (v1 + 1))))))), (0, vr 13 0), (1, vi v1)]) (st' := [vi (v1 + 7), vr 61 0]) (μ' := μ) (pc' := 66) [(.istore_n 3, 0, 0, 0, 0), (.aload_n 0, 0, 0, 0, 0), (.getfield 35, 12, 20, 0, 0), (.iload_n 1, 0, 0, 0, 0), (.bipush 7, 0, 0, 7, 0), (.iadd, 0, 0, 0, 0)] (by decide +kernel) rfl rfl ?_
  refine sS_ial oI rfl (n := 1740) (j := (ix (v1 + 7))) (by decide +kernel) rfl rfl rfl (fun _ => ?_)
  refine sBk (lo' := [(3, vi (rI μ 61 0 (ix (s0 + (rI μ 61 0 (ix (v1 + 1))))))), (0, vr 13 0), (1, vi v1)]) (st' := [vi 60, vi (rI μ 61 0 (ix (v1 + 7)))]) (μ' := μ) (pc' := 69) [(.bipush 60, 0, 0, 60, 0)] (by decide +kernel) rfl rfl ?_
  refine sIc_ne oI (off := 23) (tgt := 92) (by decide +kernel) (by decide) (fun _ => ?_) (fun _ => ?_)
  · refine sBk (lo' := [(3, vi (rI μ 61 0 (ix (s0 + (rI μ 61 0 (ix (v1 + 1))))))), (0, vr 13 0), (1, vi v1)]) (st' := [vi (v1 + 7), vr 61 0]) (μ' := μ) (pc' := 100) [(.aload_n 0, 0, 0, 0, 0), (.getfield 35, 12, 20, 0, 0), (.iload_n 1, 0, 0, 0, 0), (.bipush 7, 0, 0, 7, 0), (.iadd, 0, 0, 0, 0)] (by decide +kernel) rfl rfl ?_
    refine sS_ial oI rfl (n := 1740) (j := (ix (v1 + 7))) (by decide +kernel) rfl rfl rfl (fun _ => ?_)
    refine sBk (lo' := [(3, vi (rI μ 61 0 (ix (s0 + (rI μ 61 0 (ix (v1 + 1))))))), (0, vr 13 0), (1, vi v1)]) (st' := [vi 62, vi (rI μ 61 0 (ix (v1 + 7)))]) (μ' := μ) (pc' := 103) [(.bipush 62, 0, 0, 62, 0)] (by decide +kernel) rfl rfl ?_
    refine sIc_ne oI (off := 23) (tgt := 126) (by decide +kernel) (by decide) (fun _ => ?_) (fun _ => ?_)
    · refine sBk (lo' := [(3, vi (rI μ 61 0 (ix (s0 + (rI μ 61 0 (ix (v1 + 1))))))), (0, vr 13 0), (1, vi v1)]) (st' := [vi (v1 + 2), vr 61 0, vi (rI μ 61 0 (ix (s0 + (rI μ 61 0 (ix (v1 + 1))))))]) (μ' := μ) (pc' := 134) [(.iload_n 3, 0, 0, 0, 0), (.aload_n 0, 0, 0, 0, 0), (.getfield 35, 12, 20, 0, 0), (.iload_n 1, 0, 0, 0, 0), (.iconst 2, 0, 0, 2, 0), (.iadd, 0, 0, 0, 0)] (by decide +kernel) rfl rfl ?_
      refine sS_ial oI rfl (n := 1740) (j := (ix (v1 + 2))) (by decide +kernel) rfl rfl rfl (fun _ => ?_)
      refine sIc_ne oI (off := 7) (tgt := 142) (by decide +kernel) (by decide) (fun _ => ?_) (fun _ => ?_)
      · refine sBk (lo' := [(3, vi (rI μ 61 0 (ix (s0 + (rI μ 61 0 (ix (v1 + 1))))))), (0, vr 13 0), (1, vi v1)]) (st' := [vi 0]) (μ' := μ) (pc' := 143) [(.iconst 0, 0, 0, 0, 0)] (by decide +kernel) rfl rfl ?_
        exact sRi (by decide +kernel) (fun _ => Or.inl rfl)
      · refine sBk (lo' := [(3, vi (rI μ 61 0 (ix (s0 + (rI μ 61 0 (ix (v1 + 1))))))), (0, vr 13 0), (1, vi v1)]) (st' := [vi 1]) (μ' := μ) (pc' := 139) [(.iconst 1, 0, 0, 1, 0)] (by decide +kernel) rfl rfl ?_
        refine sGt (off := 4) (tgt := 143) (by decide +kernel) (by decide) ?_
        exact sRi (by decide +kernel) (fun _ => Or.inr rfl)
    · refine sBk (lo' := [(3, vi (rI μ 61 0 (ix (s0 + (rI μ 61 0 (ix (v1 + 1))))))), (0, vr 13 0), (1, vi v1)]) (st' := [vi (v1 + 2), vr 61 0, vi (rI μ 61 0 (ix (s0 + (rI μ 61 0 (ix (v1 + 1))))))]) (μ' := μ) (pc' := 114) [(.iload_n 3, 0, 0, 0, 0), (.aload_n 0, 0, 0, 0, 0), (.getfield 35, 12, 20, 0, 0), (.iload_n 1, 0, 0, 0, 0), (.iconst 2, 0, 0, 2, 0), (.iadd, 0, 0, 0, 0)] (by decide +kernel) rfl rfl ?_
      refine sS_ial oI rfl (n := 1740) (j := (ix (v1 + 2))) (by decide +kernel) rfl rfl rfl (fun _ => ?_)
      refine sIc_le oI (off := 7) (tgt := 122) (by decide +kernel) (by decide) (fun _ => ?_) (fun _ => ?_)
      · refine sBk (lo' := [(3, vi (rI μ 61 0 (ix (s0 + (rI μ 61 0 (ix (v1 + 1))))))), (0, vr 13 0), (1, vi v1)]) (st' := [vi 0]) (μ' := μ) (pc' := 123) [(.iconst 0, 0, 0, 0, 0)] (by decide +kernel) rfl rfl ?_
        refine sGt (off := 20) (tgt := 143) (by decide +kernel) (by decide) ?_
        exact sRi (by decide +kernel) (fun _ => Or.inl rfl)
      · refine sBk (lo' := [(3, vi (rI μ 61 0 (ix (s0 + (rI μ 61 0 (ix (v1 + 1))))))), (0, vr 13 0), (1, vi v1)]) (st' := [vi 1]) (μ' := μ) (pc' := 119) [(.iconst 1, 0, 0, 1, 0)] (by decide +kernel) rfl rfl ?_
        refine sGt (off := 24) (tgt := 143) (by decide +kernel) (by decide) ?_
        exact sRi (by decide +kernel) (fun _ => Or.inr rfl)
  · refine sBk (lo' := [(3, vi (rI μ 61 0 (ix (s0 + (rI μ 61 0 (ix (v1 + 1))))))), (0, vr 13 0), (1, vi v1)]) (st' := [vi (v1 + 2), vr 61 0, vi (rI μ 61 0 (ix (s0 + (rI μ 61 0 (ix (v1 + 1))))))]) (μ' := μ) (pc' := 80) [(.iload_n 3, 0, 0, 0, 0), (.aload_n 0, 0, 0, 0, 0), (.getfield 35, 12, 20, 0, 0), (.iload_n 1, 0, 0, 0, 0), (.iconst 2, 0, 0, 2, 0), (.iadd, 0, 0, 0, 0)] (by decide +kernel) rfl rfl ?_
    refine sS_ial oI rfl (n := 1740) (j := (ix (v1 + 2))) (by decide +kernel) rfl rfl rfl (fun _ => ?_)
    refine sIc_ge oI (off := 7) (tgt := 88) (by decide +kernel) (by decide) (fun _ => ?_) (fun _ => ?_)
    · refine sBk (lo' := [(3, vi (rI μ 61 0 (ix (s0 + (rI μ 61 0 (ix (v1 + 1))))))), (0, vr 13 0), (1, vi v1)]) (st' := [vi 0]) (μ' := μ) (pc' := 89) [(.iconst 0, 0, 0, 0, 0)] (by decide +kernel) rfl rfl ?_
      refine sGt (off := 54) (tgt := 143) (by decide +kernel) (by decide) ?_
      exact sRi (by decide +kernel) (fun _ => Or.inl rfl)
    · refine sBk (lo' := [(3, vi (rI μ 61 0 (ix (s0 + (rI μ 61 0 (ix (v1 + 1))))))), (0, vr 13 0), (1, vi v1)]) (st' := [vi 1]) (μ' := μ) (pc' := 85) [(.iconst 1, 0, 0, 1, 0)] (by decide +kernel) rfl rfl ?_
      refine sGt (off := 58) (tgt := 143) (by decide +kernel) (by decide) ?_
      exact sRi (by decide +kernel) (fun _ => Or.inr rfl)
def X12_isSo (a1 : Int32) (μ : sM) : Option (Int32 × sM) :=
  if inb (a1 + 6) 1740 = true then
    if (rI μ 61 0 (ix (a1 + 6))) = 2 then
      if (rI μ 61 0 7) = 1 then
        some (1, μ)
      else
        some (0, μ)
    else
      if (rI μ 61 0 (ix (a1 + 6))) = 0 then
        X12_isSo_J47 a1 28 μ
      else
        X12_isSo_J47 a1 46 μ
  else none
theorem tX12_isSo (a1 : Int32) (μ : sM) : sMt yX12_isSo cX12_isSo 4 (some .boolean) 1 [vr 13 0, vi a1] μ (oI (X12_isSo a1 μ)) := by
  refine sMt_of (own := 12) (bl := true) (by decide +kernel) rfl (Nat.le_of_ble_eq_true rfl) (fun r ρ h => ?_) ?_
  · obtain ⟨q, -, hq⟩ := Option.map_eq_some_iff.mp h
    cases hq
    exact Or.inr ⟨rfl, rfl⟩
  · unfold X12_isSo
    show sOk 12 cX12_isSo 4 1 true 0 [(0, vr 13 0), (1, vi a1)] [] μ _
    refine sBk (lo' := [(0, vr 13 0), (1, vi a1)]) (st' := [vi (a1 + 6), vr 61 0]) (μ' := μ) (pc' := 8) [(.aload_n 0, 0, 0, 0, 0), (.getfield 35, 12, 20, 0, 0), (.iload_n 1, 0, 0, 0, 0), (.bipush 6, 0, 0, 6, 0), (.iadd, 0, 0, 0, 0)] (by decide +kernel) rfl rfl ?_
    refine sS_ial oI rfl (n := 1740) (j := (ix (a1 + 6))) (by decide +kernel) rfl rfl rfl (fun _ => ?_)
    refine sBk (lo' := [(2, vi (rI μ 61 0 (ix (a1 + 6)))), (0, vr 13 0), (1, vi a1)]) (st' := [vi 2, vi (rI μ 61 0 (ix (a1 + 6)))]) (μ' := μ) (pc' := 12) [(.istore_n 2, 0, 0, 0, 0), (.iload_n 2, 0, 0, 0, 0), (.iconst 2, 0, 0, 2, 0)] (by decide +kernel) rfl rfl ?_
    refine sIc_ne oI (off := 20) (tgt := 32) (by decide +kernel) (by decide) (fun _ => ?_) (fun _ => ?_)
    · refine sBk (lo' := [(2, vi (rI μ 61 0 (ix (a1 + 6)))), (0, vr 13 0), (1, vi a1)]) (st' := [vi (rI μ 61 0 (ix (a1 + 6))), vr 61 0]) (μ' := μ) (pc' := 37) [(.aload_n 0, 0, 0, 0, 0), (.getfield 35, 12, 20, 0, 0), (.iload_n 2, 0, 0, 0, 0)] (by decide +kernel) rfl rfl ?_
      refine sIf_ne oI (off := 8) (tgt := 45) (by decide +kernel) (by decide) (fun _ => ?_) (fun _ => ?_)
      · refine sBk (lo' := [(2, vi (rI μ 61 0 (ix (a1 + 6)))), (0, vr 13 0), (1, vi a1)]) (st' := [vi 46, vr 61 0]) (μ' := μ) (pc' := 47) [(.bipush 46, 0, 0, 46, 0)] (by decide +kernel) rfl rfl ?_
        refine sWk (lo' := [(0, vr 13 0), (1, vi a1)]) [1, 2] rfl ?_
        exact X12_isSo_J47_ok a1 46 μ
      · refine sBk (lo' := [(2, vi (rI μ 61 0 (ix (a1 + 6)))), (0, vr 13 0), (1, vi a1)]) (st' := [vi 28, vr 61 0]) (μ' := μ) (pc' := 42) [(.bipush 28, 0, 0, 28, 0)] (by decide +kernel) rfl rfl ?_
        refine sGt (off := 5) (tgt := 47) (by decide +kernel) (by decide) ?_
        refine sWk (lo' := [(0, vr 13 0), (1, vi a1)]) [1, 2] rfl ?_
        exact X12_isSo_J47_ok a1 28 μ
    · refine sBk (lo' := [(2, vi (rI μ 61 0 (ix (a1 + 6)))), (0, vr 13 0), (1, vi a1)]) (st' := [vi 7, vr 61 0]) (μ' := μ) (pc' := 21) [(.aload_n 0, 0, 0, 0, 0), (.getfield 35, 12, 20, 0, 0), (.bipush 7, 0, 0, 7, 0)] (by decide +kernel) rfl rfl ?_
      refine sC_ial (n := 1740) (j := 7) (by decide +kernel) (by decide +kernel) rfl rfl (by decide +kernel) ?_
      refine sBk (lo' := [(2, vi (rI μ 61 0 (ix (a1 + 6)))), (0, vr 13 0), (1, vi a1)]) (st' := [vi 1, vi (rI μ 61 0 7)]) (μ' := μ) (pc' := 23) [(.iconst 1, 0, 0, 1, 0)] (by decide +kernel) rfl rfl ?_
      refine sIc_ne oI (off := 7) (tgt := 30) (by decide +kernel) (by decide) (fun _ => ?_) (fun _ => ?_)
      · refine sBk (lo' := [(2, vi (rI μ 61 0 (ix (a1 + 6)))), (0, vr 13 0), (1, vi a1)]) (st' := [vi 0]) (μ' := μ) (pc' := 31) [(.iconst 0, 0, 0, 0, 0)] (by decide +kernel) rfl rfl ?_
        exact sRi (by decide +kernel) (fun _ => Or.inl rfl)
      · refine sBk (lo' := [(2, vi (rI μ 61 0 (ix (a1 + 6)))), (0, vr 13 0), (1, vi a1)]) (st' := [vi 1]) (μ' := μ) (pc' := 27) [(.iconst 1, 0, 0, 1, 0)] (by decide +kernel) rfl rfl ?_
        refine sGt (off := 4) (tgt := 31) (by decide +kernel) (by decide) ?_
        exact sRi (by decide +kernel) (fun _ => Or.inr rfl)
/-! ClockRiverModel.doOne -/
def X12_doOne_L119 (rec : Int32 → Int32 → sM → Option sM) : Nat → Int32 → Int32 → Int32 → sM → Option sM
  | 0, _, _, _, _ => none
  | n + 1, v1, v2, v4, μ =>
    if inb (v2 + 1) 1740 = true then
      if (rI μ 61 0 (ix (v2 + 1))) ≤ v4 then
        some μ
      else
        if (rI μ 13 0 41) = 0 then
          if inb (v2 + 8) 1740 = true then
            bV (rec (v1 + 1) (rI μ 61 0 (ix (v2 + 8))) μ) fun μ2 =>
              X12_doOne_L119 rec n v1 v2 (v4 + 1) μ2
          else none
        else
          some μ
    else none
theorem X12_doOne_L119_ok {rec : Int32 → Int32 → sM → Option sM} {d0 : Nat} (hd : 6 ≤ d0) (hrec : ∀ (a1 : Int32) (a2 : Int32) (μ : sM), sMt yX12_doAll cX12_doAll 4 none d0 [vr 13 0, vi a1, vi a2] μ (oV (rec a1 a2 μ))) : ∀ (n : Nat) (v1 : Int32) (v2 : Int32) (v4 : Int32) (μ : sM), sOk 12 cX12_doOne 5 (d0 + 1) false 119 [(0, vr 13 0), (1, vi v1), (2, vi v2), (4, vi v4)] [] μ (oV (X12_doOne_L119 rec n v1 v2 v4 μ)) := by
  intro n
  induction n with
  | zero =>
    intros
    exact sNo
  | succ n ih =>
    intro v1 v2 v4 μ
    unfold X12_doOne_L119
    refine sBk (lo' := [(0, vr 13 0), (1, vi v1), (2, vi v2), (4, vi v4)]) (st' := [vi (v2 + 1), vr 61 0, vi v4]) (μ' := μ) (pc' := 128) [(.iload 4, 0, 0, 0, 0), (.aload_n 0, 0, 0, 0, 0), (.getfield 35, 12, 20, 0, 0), (.iload_n 2, 0, 0, 0, 0), (.iconst 1, 0, 0, 1, 0), (.iadd, 0, 0, 0, 0)] (by decide +kernel) rfl rfl ?_
    refine sS_ial oV rfl (n := 1740) (j := (ix (v2 + 1))) (by decide +kernel) rfl rfl rfl (fun _ => ?_)
    refine sIc_ge oV (off := 32) (tgt := 161) (by decide +kernel) (by decide) (fun _ => ?_) (fun _ => ?_)
    · refine sGt (off := 14) (tgt := 175) (by decide +kernel) (by decide) ?_
      exact sRv (by decide +kernel)
    · refine sBk (lo' := [(0, vr 13 0), (1, vi v1), (2, vi v2), (4, vi v4)]) (st' := [vi (rI μ 13 0 41)]) (μ' := μ) (pc' := 136) [(.aload_n 0, 0, 0, 0, 0), (.getfield 515, 12, 41, 0, 0)] (by decide +kernel) rfl rfl ?_
      refine sIf_ne oV (off := 25) (tgt := 161) (by decide +kernel) (by decide) (fun _ => ?_) (fun _ => ?_)
      · refine sGt (off := 14) (tgt := 175) (by decide +kernel) (by decide) ?_
        exact sRv (by decide +kernel)
      · refine sBk (lo' := [(0, vr 13 0), (1, vi v1), (2, vi v2), (4, vi v4)]) (st' := [vi (v2 + 8), vr 61 0, vi (v1 + 1), vr 13 0]) (μ' := μ) (pc' := 151) [(.aload_n 0, 0, 0, 0, 0), (.iload_n 1, 0, 0, 0, 0), (.iconst 1, 0, 0, 1, 0), (.iadd, 0, 0, 0, 0), (.aload_n 0, 0, 0, 0, 0), (.getfield 35, 12, 20, 0, 0), (.iload_n 2, 0, 0, 0, 0), (.bipush 8, 0, 0, 8, 0), (.iadd, 0, 0, 0, 0)] (by decide +kernel) rfl rfl ?_
        refine sS_ial oV rfl (n := 1740) (j := (ix (v2 + 8))) (by decide +kernel) rfl rfl rfl (fun _ => ?_)
        refine sCvV oV rfl (ci := 12) (q := (13, 0)) (avs := [vi (v1 + 1), vi (rI μ 61 0 (ix (v2 + 8)))]) (rest := []) (hrec (v1 + 1) (rI μ 61 0 (ix (v2 + 8))) μ) (by omega) (by decide +kernel) lk_12_531 yv_X12_doAll rfl (by decide) rfl rfl rfl (Nat.le_of_ble_eq_true rfl) (fun μ2 => ?_)
        refine sBk (lo' := [(4, vi (v4 + 1)), (0, vr 13 0), (1, vi v1), (2, vi v2)]) (st' := []) (μ' := μ2) (pc' := 158) [(.iinc 4 1, 0, 0, 1, 0)] (by decide +kernel) rfl rfl ?_
        refine sGt (off := (-39)) (tgt := 119) (by decide +kernel) (by decide) ?_
        refine sWk (lo' := [(0, vr 13 0), (1, vi v1), (2, vi v2), (4, vi (v4 + 1))]) [1, 2, 3, 0] rfl ?_
        exact ih v1 v2 (v4 + 1) μ2
def X12_doOne_J110 (rec : Int32 → Int32 → sM → Option sM) (v1 : Int32) (v2 : Int32) (v3 : Int32) (μ : sM) : Option sM :=
  if v3 = 8 then
    X12_doOne_L119 rec fuN v1 v2 0 μ
  else
    if v3 ≤ 8 then
      some μ
    else
      some (wI μ 13 0 41 1)
theorem X12_doOne_J110_ok {rec : Int32 → Int32 → sM → Option sM} {d0 : Nat} (hd : 6 ≤ d0) (hrec : ∀ (a1 : Int32) (a2 : Int32) (μ : sM), sMt yX12_doAll cX12_doAll 4 none d0 [vr 13 0, vi a1, vi a2] μ (oV (rec a1 a2 μ))) (v1 : Int32) (v2 : Int32) (v3 : Int32) (μ : sM) : sOk 12 cX12_doOne 5 (d0 + 1) false 110 [(0, vr 13 0), (1, vi v1), (2, vi v2), (3, vi v3)] [] μ (oV (X12_doOne_J110 rec v1 v2 v3 μ)) := by
  unfold X12_doOne_J110
  refine sBk (lo' := [(0, vr 13 0), (1, vi v1), (2, vi v2), (3, vi v3)]) (st' := [vi 8, vi v3]) (μ' := μ) (pc' := 113) [(.iload_n 3, 0, 0, 0, 0), (.bipush 8, 0, 0, 8, 0)] (by decide +kernel) rfl rfl ?_
  refine sIc_ne oV (off := 51) (tgt := 164) (by decide +kernel) (by decide) (fun _ => ?_) (fun _ => ?_)
  · refine sBk (lo' := [(0, vr 13 0), (1, vi v1), (2, vi v2), (3, vi v3)]) (st' := [vi 8, vi v3]) (μ' := μ) (pc' := 167) [(.iload_n 3, 0, 0, 0, 0), (.bipush 8, 0, 0, 8, 0)] (by decide +kernel) rfl rfl ?_
    refine sIc_le oV (off := 8) (tgt := 175) (by decide +kernel) (by decide) (fun _ => ?_) (fun _ => ?_)
    · exact sRv (by decide +kernel)
    · refine sBk (lo' := [(0, vr 13 0), (1, vi v1), (2, vi v2), (3, vi v3)]) (st' := []) (μ' := wI μ 13 0 41 1) (pc' := 175) [(.aload_n 0, 0, 0, 0, 0), (.iconst 1, 0, 0, 1, 0), (.putfield 515, 12, 41, 0, 0)] (by decide +kernel) rfl rfl ?_
      exact sRv (by decide +kernel)
  · refine sBk (lo' := [(4, vi 0), (0, vr 13 0), (1, vi v1), (2, vi v2), (3, vi v3)]) (st' := []) (μ' := μ) (pc' := 119) [(.iconst 0, 0, 0, 0, 0), (.istore 4, 0, 0, 0, 0)] (by decide +kernel) rfl rfl ?_
    refine sWk (lo' := [(0, vr 13 0), (1, vi v1), (2, vi v2), (4, vi 0)]) [1, 2, 3, 0] rfl ?_
    exact X12_doOne_L119_ok hd hrec fuN v1 v2 0 μ
def X12_doOne_ (rec : Int32 → Int32 → sM → Option sM) (a1 : Int32) (μ : sM) : Option sM :=
  if (rI μ 13 0 43) = 300 then
    some (wI (wI μ 13 0 41 1) 13 0 48 1)
  else
    if inb (78 + (9 * a1)) 1740 = true then
      if 7 ≤ (rI μ 61 0 (ix (78 + (9 * a1)))) then
        if (rI μ 61 0 (ix (78 + (9 * a1)))) = 7 then
          bI (X12_isSo (78 + (9 * a1)) (wI μ 13 0 43 ((rI μ 13 0 43) + 1))) fun x1 μ2 =>
            if x1 = 0 then
              X12_doOne_J110 rec a1 (78 + (9 * a1)) (rI μ 61 0 (ix (78 + (9 * a1)))) μ2
            else
              if inb ((78 + (9 * a1)) + 8) 1740 = true then
                bV (rec (a1 + 1) (rI μ2 61 0 (ix ((78 + (9 * a1)) + 8))) μ2) fun μ4 =>
                  some μ4
              else none
        else
          X12_doOne_J110 rec a1 (78 + (9 * a1)) (rI μ 61 0 (ix (78 + (9 * a1)))) (wI μ 13 0 43 ((rI μ 13 0 43) + 1))
      else
        bI (X12_does (78 + (9 * a1)) (wI μ 13 0 43 ((rI μ 13 0 43) + 1))) fun x5 μ6 =>
          if x5 = 0 then
            some (wI μ6 13 0 44 ((rI μ 13 0 44) + 1))
          else
            some (wI μ6 13 0 44 ((rI μ 13 0 44) + 0))
    else none
theorem tX12_doOne_ {rec : Int32 → Int32 → sM → Option sM} {d0 : Nat} (hd : 6 ≤ d0) (hrec : ∀ (a1 : Int32) (a2 : Int32) (μ : sM), sMt yX12_doAll cX12_doAll 4 none d0 [vr 13 0, vi a1, vi a2] μ (oV (rec a1 a2 μ))) (a1 : Int32) (μ : sM) : sMt yX12_doOne cX12_doOne 5 none (d0 + 1) [vr 13 0, vi a1] μ (oV (X12_doOne_ rec a1 μ)) := by
  refine sMt_of (own := 12) (bl := false) (by decide +kernel) rfl (Nat.le_of_ble_eq_true rfl) (fun r ρ h => ?_) ?_
  · obtain ⟨q, -, hq⟩ := Option.map_eq_some_iff.mp h
    cases hq
    exact rfl
  · unfold X12_doOne_
    show sOk 12 cX12_doOne 5 (d0 + 1) false 0 [(0, vr 13 0), (1, vi a1)] [] μ _
    refine sBk (lo' := [(0, vr 13 0), (1, vi a1)]) (st' := [vi 300, vi (rI μ 13 0 43)]) (μ' := μ) (pc' := 7) [(.aload_n 0, 0, 0, 0, 0), (.getfield 512, 12, 43, 0, 0), (.sipush 300, 0, 0, 300, 0)] (by decide +kernel) rfl rfl ?_
    refine sIc_ne oV (off := 14) (tgt := 21) (by decide +kernel) (by decide) (fun _ => ?_) (fun _ => ?_)
    · refine sBk (lo' := [(2, vi (78 + (9 * a1))), (0, vr 13 0), (1, vi a1)]) (st' := [vi (78 + (9 * a1)), vr 61 0]) (μ' := wI μ 13 0 43 ((rI μ 13 0 43) + 1)) (pc' := 44) [(.aload_n 0, 0, 0, 0, 0), (.dup, 0, 0, 0, 0), (.getfield 512, 12, 43, 0, 0), (.iconst 1, 0, 0, 1, 0), (.iadd, 0, 0, 0, 0), (.putfield 512, 12, 43, 0, 0), (.bipush 78, 0, 0, 78, 0), (.bipush 9, 0, 0, 9, 0), (.iload_n 1, 0, 0, 0, 0), (.imul, 0, 0, 0, 0), (.iadd, 0, 0, 0, 0), (.istore_n 2, 0, 0, 0, 0), (.aload_n 0, 0, 0, 0, 0), (.getfield 35, 12, 20, 0, 0), (.iload_n 2, 0, 0, 0, 0)] (by decide +kernel) rfl rfl ?_
      refine sS_ial oV rfl (n := 1740) (j := (ix (78 + (9 * a1)))) (by decide +kernel) rfl rfl rfl (fun _ => ?_)
      refine sBk (lo' := [(3, vi (rI μ 61 0 (ix (78 + (9 * a1))))), (2, vi (78 + (9 * a1))), (0, vr 13 0), (1, vi a1)]) (st' := [vi 7, vi (rI μ 61 0 (ix (78 + (9 * a1))))]) (μ' := wI μ 13 0 43 ((rI μ 13 0 43) + 1)) (pc' := 49) [(.istore_n 3, 0, 0, 0, 0), (.iload_n 3, 0, 0, 0, 0), (.bipush 7, 0, 0, 7, 0)] (by decide +kernel) rfl rfl ?_
      refine sIc_ge oV (off := 28) (tgt := 77) (by decide +kernel) (by decide) (fun _ => ?_) (fun _ => ?_)
      · refine sBk (lo' := [(3, vi (rI μ 61 0 (ix (78 + (9 * a1))))), (2, vi (78 + (9 * a1))), (0, vr 13 0), (1, vi a1)]) (st' := [vi 7, vi (rI μ 61 0 (ix (78 + (9 * a1))))]) (μ' := wI μ 13 0 43 ((rI μ 13 0 43) + 1)) (pc' := 80) [(.iload_n 3, 0, 0, 0, 0), (.bipush 7, 0, 0, 7, 0)] (by decide +kernel) rfl rfl ?_
        refine sIc_ne oV (off := 30) (tgt := 110) (by decide +kernel) (by decide) (fun _ => ?_) (fun _ => ?_)
        · refine sWk (lo' := [(0, vr 13 0), (1, vi a1), (2, vi (78 + (9 * a1))), (3, vi (rI μ 61 0 (ix (78 + (9 * a1)))))]) [2, 3, 1, 0] rfl ?_
          exact X12_doOne_J110_ok hd hrec a1 (78 + (9 * a1)) (rI μ 61 0 (ix (78 + (9 * a1)))) (wI μ 13 0 43 ((rI μ 13 0 43) + 1))
        · refine sBk (lo' := [(3, vi (rI μ 61 0 (ix (78 + (9 * a1))))), (2, vi (78 + (9 * a1))), (0, vr 13 0), (1, vi a1)]) (st' := [vi (78 + (9 * a1)), vr 13 0]) (μ' := wI μ 13 0 43 ((rI μ 13 0 43) + 1)) (pc' := 85) [(.aload_n 0, 0, 0, 0, 0), (.iload_n 2, 0, 0, 0, 0)] (by decide +kernel) rfl rfl ?_
          refine sCvI oV rfl (ci := 12) (q := (13, 0)) (avs := [vi (78 + (9 * a1))]) (rest := []) (tX12_isSo (78 + (9 * a1)) (wI μ 13 0 43 ((rI μ 13 0 43) + 1))) (by omega) (by decide +kernel) lk_12_528 yv_X12_isSo rfl (by decide) rfl rfl rfl (Nat.le_of_ble_eq_true rfl) (fun x1 μ2 => ?_)
          refine sIf_eq oV (off := 22) (tgt := 110) (by decide +kernel) (by decide) (fun _ => ?_) (fun _ => ?_)
          · refine sWk (lo' := [(0, vr 13 0), (1, vi a1), (2, vi (78 + (9 * a1))), (3, vi (rI μ 61 0 (ix (78 + (9 * a1)))))]) [2, 3, 1, 0] rfl ?_
            exact X12_doOne_J110_ok hd hrec a1 (78 + (9 * a1)) (rI μ 61 0 (ix (78 + (9 * a1)))) μ2
          · refine sBk (lo' := [(3, vi (rI μ 61 0 (ix (78 + (9 * a1))))), (2, vi (78 + (9 * a1))), (0, vr 13 0), (1, vi a1)]) (st' := [vi ((78 + (9 * a1)) + 8), vr 61 0, vi (a1 + 1), vr 13 0]) (μ' := μ2) (pc' := 103) [(.aload_n 0, 0, 0, 0, 0), (.iload_n 1, 0, 0, 0, 0), (.iconst 1, 0, 0, 1, 0), (.iadd, 0, 0, 0, 0), (.aload_n 0, 0, 0, 0, 0), (.getfield 35, 12, 20, 0, 0), (.iload_n 2, 0, 0, 0, 0), (.bipush 8, 0, 0, 8, 0), (.iadd, 0, 0, 0, 0)] (by decide +kernel) rfl rfl ?_
            refine sS_ial oV rfl (n := 1740) (j := (ix ((78 + (9 * a1)) + 8))) (by decide +kernel) rfl rfl rfl (fun _ => ?_)
            refine sCvV oV rfl (ci := 12) (q := (13, 0)) (avs := [vi (a1 + 1), vi (rI μ2 61 0 (ix ((78 + (9 * a1)) + 8)))]) (rest := []) (hrec (a1 + 1) (rI μ2 61 0 (ix ((78 + (9 * a1)) + 8))) μ2) (by omega) (by decide +kernel) lk_12_531 yv_X12_doAll rfl (by decide) rfl rfl rfl (Nat.le_of_ble_eq_true rfl) (fun μ4 => ?_)
            refine sGt (off := 68) (tgt := 175) (by decide +kernel) (by decide) ?_
            exact sRv (by decide +kernel)
      · refine sBk (lo' := [(3, vi (rI μ 61 0 (ix (78 + (9 * a1))))), (2, vi (78 + (9 * a1))), (0, vr 13 0), (1, vi a1)]) (st' := [vi (78 + (9 * a1)), vr 13 0, vi (rI μ 13 0 44), vr 13 0]) (μ' := wI μ 13 0 43 ((rI μ 13 0 43) + 1)) (pc' := 59) [(.aload_n 0, 0, 0, 0, 0), (.dup, 0, 0, 0, 0), (.getfield 522, 12, 44, 0, 0), (.aload_n 0, 0, 0, 0, 0), (.iload_n 2, 0, 0, 0, 0)] (by decide +kernel) rfl rfl ?_
        refine sCvI oV rfl (ci := 12) (q := (13, 0)) (avs := [vi (78 + (9 * a1))]) (rest := [vi (rI μ 13 0 44), vr 13 0]) (tX12_does (78 + (9 * a1)) (wI μ 13 0 43 ((rI μ 13 0 43) + 1))) (by omega) (by decide +kernel) lk_12_525 yv_X12_does rfl (by decide) rfl rfl rfl (Nat.le_of_ble_eq_true rfl) (fun x5 μ6 => ?_)
        refine sIf_eq oV (off := 7) (tgt := 69) (by decide +kernel) (by decide) (fun _ => ?_) (fun _ => ?_)
        · refine sBk (lo' := [(3, vi (rI μ 61 0 (ix (78 + (9 * a1))))), (2, vi (78 + (9 * a1))), (0, vr 13 0), (1, vi a1)]) (st' := []) (μ' := wI μ6 13 0 44 ((rI μ 13 0 44) + 1)) (pc' := 74) [(.iconst 1, 0, 0, 1, 0), (.iadd, 0, 0, 0, 0), (.putfield 522, 12, 44, 0, 0)] (by decide +kernel) rfl rfl ?_
          refine sGt (off := 101) (tgt := 175) (by decide +kernel) (by decide) ?_
          exact sRv (by decide +kernel)
        · refine sBk (lo' := [(3, vi (rI μ 61 0 (ix (78 + (9 * a1))))), (2, vi (78 + (9 * a1))), (0, vr 13 0), (1, vi a1)]) (st' := [vi 0, vi (rI μ 13 0 44), vr 13 0]) (μ' := μ6) (pc' := 66) [(.iconst 0, 0, 0, 0, 0)] (by decide +kernel) rfl rfl ?_
          refine sGt (off := 4) (tgt := 70) (by decide +kernel) (by decide) ?_
          refine sBk (lo' := [(3, vi (rI μ 61 0 (ix (78 + (9 * a1))))), (2, vi (78 + (9 * a1))), (0, vr 13 0), (1, vi a1)]) (st' := []) (μ' := wI μ6 13 0 44 ((rI μ 13 0 44) + 0)) (pc' := 74) [(.iadd, 0, 0, 0, 0), (.putfield 522, 12, 44, 0, 0)] (by decide +kernel) rfl rfl ?_
          refine sGt (off := 101) (tgt := 175) (by decide +kernel) (by decide) ?_
          exact sRv (by decide +kernel)
    · refine sBk (lo' := [(0, vr 13 0), (1, vi a1)]) (st' := []) (μ' := wI (wI μ 13 0 41 1) 13 0 48 1) (pc' := 20) [(.aload_n 0, 0, 0, 0, 0), (.iconst 1, 0, 0, 1, 0), (.putfield 515, 12, 41, 0, 0), (.aload_n 0, 0, 0, 0, 0), (.iconst 1, 0, 0, 1, 0), (.putfield 519, 12, 48, 0, 0)] (by decide +kernel) rfl rfl ?_
      exact sRv (by decide +kernel)

/-! ClockRiverModel.doAll -/
def X12_doAll_L2 (rec : Int32 → sM → Option sM) : Nat → Int32 → Int32 → sM → Option sM
  | 0, _, _, _ => none
  | n + 1, v2, v3, μ =>
    if v2 ≤ v3 then
      some μ
    else
      if (rI μ 13 0 41) = 0 then
        bV (rec v3 μ) fun μ2 =>
          if inb ((78 + (9 * v3)) + 8) 1740 = true then
            X12_doAll_L2 rec n v2 (rI μ2 61 0 (ix ((78 + (9 * v3)) + 8))) μ2
          else none
      else
        some μ
theorem X12_doAll_L2_ok {rec : Int32 → sM → Option sM} {d0 : Nat} (hd : 1 ≤ d0) (hrec : ∀ (a1 : Int32) (μ : sM), sMt yX12_doOne cX12_doOne 5 none d0 [vr 13 0, vi a1] μ (oV (rec a1 μ))) : ∀ (n : Nat) (v2 : Int32) (v3 : Int32) (μ : sM), sOk 12 cX12_doAll 4 (d0 + 1) false 2 [(0, vr 13 0), (2, vi v2), (3, vi v3)] [] μ (oV (X12_doAll_L2 rec n v2 v3 μ)) := by
  intro n
  induction n with
  | zero =>
    intros
    exact sNo
  | succ n ih =>
    intro v2 v3 μ
    unfold X12_doAll_L2
    refine sBk (lo' := [(0, vr 13 0), (2, vi v2), (3, vi v3)]) (st' := [vi v2, vi v3]) (μ' := μ) (pc' := 4) [(.iload_n 3, 0, 0, 0, 0), (.iload_n 2, 0, 0, 0, 0)] (by decide +kernel) rfl rfl ?_
    refine sIc_ge oV (off := 34) (tgt := 38) (by decide +kernel) (by decide) (fun _ => ?_) (fun _ => ?_)
    · exact sRv (by decide +kernel)
    · refine sBk (lo' := [(0, vr 13 0), (2, vi v2), (3, vi v3)]) (st' := [vi (rI μ 13 0 41)]) (μ' := μ) (pc' := 11) [(.aload_n 0, 0, 0, 0, 0), (.getfield 515, 12, 41, 0, 0)] (by decide +kernel) rfl rfl ?_
      refine sIf_ne oV (off := 27) (tgt := 38) (by decide +kernel) (by decide) (fun _ => ?_) (fun _ => ?_)
      · exact sRv (by decide +kernel)
      · refine sBk (lo' := [(0, vr 13 0), (2, vi v2), (3, vi v3)]) (st' := [vi v3, vr 13 0]) (μ' := μ) (pc' := 16) [(.aload_n 0, 0, 0, 0, 0), (.iload_n 3, 0, 0, 0, 0)] (by decide +kernel) rfl rfl ?_
        refine sCvV oV rfl (ci := 12) (q := (13, 0)) (avs := [vi v3]) (rest := []) (hrec v3 μ) (by omega) (by decide +kernel) lk_12_534 yv_X12_doOne rfl (by decide) rfl rfl rfl (Nat.le_of_ble_eq_true rfl) (fun μ2 => ?_)
        refine sBk (lo' := [(0, vr 13 0), (2, vi v2), (3, vi v3)]) (st' := [vi ((78 + (9 * v3)) + 8), vr 61 0]) (μ' := μ2) (pc' := 33) [(.aload_n 0, 0, 0, 0, 0), (.getfield 35, 12, 20, 0, 0), (.bipush 78, 0, 0, 78, 0), (.bipush 9, 0, 0, 9, 0), (.iload_n 3, 0, 0, 0, 0), (.imul, 0, 0, 0, 0), (.iadd, 0, 0, 0, 0), (.bipush 8, 0, 0, 8, 0), (.iadd, 0, 0, 0, 0)] (by decide +kernel) rfl rfl ?_
        refine sS_ial oV rfl (n := 1740) (j := (ix ((78 + (9 * v3)) + 8))) (by decide +kernel) rfl rfl rfl (fun _ => ?_)
        refine sBk (lo' := [(3, vi (rI μ2 61 0 (ix ((78 + (9 * v3)) + 8)))), (0, vr 13 0), (2, vi v2)]) (st' := []) (μ' := μ2) (pc' := 35) [(.istore_n 3, 0, 0, 0, 0)] (by decide +kernel) rfl rfl ?_
        refine sGt (off := (-33)) (tgt := 2) (by decide +kernel) (by decide) ?_
        refine sWk (lo' := [(0, vr 13 0), (2, vi v2), (3, vi (rI μ2 61 0 (ix ((78 + (9 * v3)) + 8))))]) [1, 2, 0] rfl ?_
        exact ih v2 (rI μ2 61 0 (ix ((78 + (9 * v3)) + 8))) μ2
def X12_doAll_ (rec : Int32 → sM → Option sM) (a1 : Int32) (a2 : Int32) (μ : sM) : Option sM :=
  X12_doAll_L2 rec fuN a2 a1 μ
theorem tX12_doAll_ {rec : Int32 → sM → Option sM} {d0 : Nat} (hd : 1 ≤ d0) (hrec : ∀ (a1 : Int32) (μ : sM), sMt yX12_doOne cX12_doOne 5 none d0 [vr 13 0, vi a1] μ (oV (rec a1 μ))) (a1 : Int32) (a2 : Int32) (μ : sM) : sMt yX12_doAll cX12_doAll 4 none (d0 + 1) [vr 13 0, vi a1, vi a2] μ (oV (X12_doAll_ rec a1 a2 μ)) := by
  refine sMt_of (own := 12) (bl := false) (by decide +kernel) rfl (Nat.le_of_ble_eq_true rfl) (fun r ρ h => ?_) ?_
  · obtain ⟨q, -, hq⟩ := Option.map_eq_some_iff.mp h
    cases hq
    exact rfl
  · unfold X12_doAll_
    show sOk 12 cX12_doAll 4 (d0 + 1) false 0 [(0, vr 13 0), (1, vi a1), (2, vi a2)] [] μ _
    refine sBk (lo' := [(3, vi a1), (0, vr 13 0), (1, vi a1), (2, vi a2)]) (st' := []) (μ' := μ) (pc' := 2) [(.iload_n 1, 0, 0, 0, 0), (.istore_n 3, 0, 0, 0, 0)] (by decide +kernel) rfl rfl ?_
    refine sWk (lo' := [(0, vr 13 0), (2, vi a2), (3, vi a1)]) [1, 3, 0] rfl ?_
    exact X12_doAll_L2_ok hd hrec fuN a2 a1 μ

def X12_doAllN : Nat → Int32 → Int32 → sM → Option sM
  | 0 => fun _ _ _ => none
  | n + 1 => X12_doAll_ (X12_doOne_ (X12_doAllN n))
theorem tX12_doAllN : ∀ (n : Nat) (a1 : Int32) (a2 : Int32) (μ : sM), sMt yX12_doAll cX12_doAll 4 none (6 + 2 * n) [vr 13 0, vi a1, vi a2] μ (oV (X12_doAllN n a1 a2 μ))
  | 0, _, _, _ => fun _ _ h => by cases h
  | n + 1, a1, a2, μ => tX12_doAll_ (d0 := 6 + 2 * n + 1) (by omega) (fun a1 μ => tX12_doOne_ (d0 := 6 + 2 * n) (by omega) (fun a1 a2 μ => tX12_doAllN n a1 a2 μ) a1 μ) a1 a2 μ
def X12_doAll (a1 : Int32) (a2 : Int32) (μ : sM) : Option sM := X12_doAllN 6 a1 a2 μ
theorem tX12_doAll (a1 : Int32) (a2 : Int32) (μ : sM) : sMt yX12_doAll cX12_doAll 4 none 18 [vr 13 0, vi a1, vi a2] μ (oV (X12_doAll a1 a2 μ)) := tX12_doAllN 6 a1 a2 μ
/-! ClockRiverModel.runsWeeks -/
def X12_runsWeeks (a1 : Int32) (μ : sM) : Option sM :=
  bV (X12_doAll 0 (rI μ 61 0 77) (wI (wI (wI (wI (wI (wI (wI (wI μ 13 0 42 a1) 13 0 43 0) 13 0 44 0) 13 0 45 0) 13 0 46 0) 13 0 47 0) 13 0 48 0) 13 0 41 0)) fun μ2 =>
    some μ2
theorem tX12_runsWeeks (a1 : Int32) (μ : sM) : sMt yX12_runsWeeks cX12_runsWeeks 2 none 19 [vr 13 0, vi a1] μ (oV (X12_runsWeeks a1 μ)) := by
  refine sMt_of (own := 12) (bl := false) (by decide +kernel) rfl (Nat.le_of_ble_eq_true rfl) (fun r ρ h => ?_) ?_
  · obtain ⟨q, -, hq⟩ := Option.map_eq_some_iff.mp h
    cases hq
    exact rfl
  · unfold X12_runsWeeks
    show sOk 12 cX12_runsWeeks 2 19 false 0 [(0, vr 13 0), (1, vi a1)] [] μ _
    refine sBk (lo' := [(0, vr 13 0), (1, vi a1)]) (st' := [vi 77, vr 61 0, vi 0, vr 13 0]) (μ' := wI (wI (wI (wI (wI (wI (wI (wI μ 13 0 42 a1) 13 0 43 0) 13 0 44 0) 13 0 45 0) 13 0 46 0) 13 0 47 0) 13 0 48 0) 13 0 41 0) (pc' := 48) [(.aload_n 0, 0, 0, 0, 0), (.iload_n 1, 0, 0, 0, 0), (.putfield 487, 12, 42, 0, 0), (.aload_n 0, 0, 0, 0, 0), (.iconst 0, 0, 0, 0, 0), (.putfield 512, 12, 43, 0, 0), (.aload_n 0, 0, 0, 0, 0), (.iconst 0, 0, 0, 0, 0), (.putfield 522, 12, 44, 0, 0), (.aload_n 0, 0, 0, 0, 0), (.iconst 0, 0, 0, 0, 0), (.putfield 494, 12, 45, 0, 0), (.aload_n 0, 0, 0, 0, 0), (.iconst 0, 0, 0, 0, 0), (.putfield 491, 12, 46, 0, 0), (.aload_n 0, 0, 0, 0, 0), (.iconst 0, 0, 0, 0, 0), (.putfield 497, 12, 47, 0, 0), (.aload_n 0, 0, 0, 0, 0), (.iconst 0, 0, 0, 0, 0), (.putfield 519, 12, 48, 0, 0), (.aload_n 0, 0, 0, 0, 0), (.iconst 0, 0, 0, 0, 0), (.putfield 515, 12, 41, 0, 0), (.aload_n 0, 0, 0, 0, 0), (.iconst 0, 0, 0, 0, 0), (.aload_n 0, 0, 0, 0, 0), (.getfield 35, 12, 20, 0, 0), (.bipush 77, 0, 0, 77, 0)] (by decide +kernel) rfl rfl ?_
    refine sC_ial (n := 1740) (j := 77) (by decide +kernel) (by decide +kernel) rfl rfl (by decide +kernel) ?_
    refine sCvV oV rfl (ci := 12) (q := (13, 0)) (avs := [vi 0, vi (rI μ 61 0 77)]) (rest := []) (tX12_doAll 0 (rI μ 61 0 77) (wI (wI (wI (wI (wI (wI (wI (wI μ 13 0 42 a1) 13 0 43 0) 13 0 44 0) 13 0 45 0) 13 0 46 0) 13 0 47 0) 13 0 48 0) 13 0 41 0)) (by decide) (by decide +kernel) lk_12_531 yv_X12_doAll rfl (by decide) rfl rfl rfl (Nat.le_of_ble_eq_true rfl) (fun μ2 => ?_)
    exact sRv (by decide +kernel)
