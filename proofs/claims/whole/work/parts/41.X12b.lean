theorem lk_12_107 : Cond.methodLink (kRn 12) 107 yX12_isIn ∈ sT := sT_in (n := 1721) (by decide +kernel) rfl
theorem lk_12_148 : Cond.methodLink (kRn 12) 148 yX12_spelled ∈ sT := sT_in (n := 1695) (by decide +kernel) rfl
theorem lk_12_152 : Cond.methodLink (kRn 12) 152 yX12_isWord ∈ sT := sT_in (n := 1698) (by decide +kernel) rfl
theorem lk_12_160 : Cond.methodLink (kRn 12) 160 yX12_isGate ∈ sT := sT_in (n := 1732) (by decide +kernel) rfl
theorem lk_12_224 : Cond.methodLink (kRn 12) 224 yX12_fail ∈ sT := sT_in (n := 1709) (by decide +kernel) rfl
theorem lk_12_228 : Cond.methodLink (kRn 12) 228 yX12_advance ∈ sT := sT_in (n := 1667) (by decide +kernel) rfl
theorem lk_12_231 : Cond.methodLink (kRn 12) 231 yX12_amiss ∈ sT := sT_in (n := 1717) (by decide +kernel) rfl
theorem lk_12_238 : Cond.methodLink (kRn 12) 238 yX12_count ∈ sT := sT_in (n := 1713) (by decide +kernel) rfl
theorem lk_12_262 : Cond.methodLink (kRn 12) 262 yX12_has ∈ sT := sT_in (n := 1706) (by decide +kernel) rfl
theorem ys_X12_has : yS yX12_has cX12_has 2 (some .boolean) 2 := ⟨⟨sT_in (n := 1708) (by decide +kernel) rfl, sT_in (n := 149) (by decide +kernel) rfl, by decide +kernel, by decide⟩, sT_in (n := 1707) (by decide +kernel) rfl⟩
theorem ys_X12_isIn : yS yX12_isIn cX12_isIn 6 (some .boolean) 3 := ⟨⟨sT_in (n := 1723) (by decide +kernel) rfl, sT_in (n := 149) (by decide +kernel) rfl, by decide +kernel, by decide⟩, sT_in (n := 1722) (by decide +kernel) rfl⟩
theorem ys_X12_spelled : yS yX12_spelled cX12_spelled 8 (some .long) 6 := ⟨⟨sT_in (n := 1697) (by decide +kernel) rfl, sT_in (n := 149) (by decide +kernel) rfl, by decide +kernel, by decide⟩, sT_in (n := 1696) (by decide +kernel) rfl⟩
theorem yv_X12_advance : yV yX12_advance cX12_advance 2 none 0 := ⟨⟨sT_in (n := 1670) (by decide +kernel) rfl, sT_in (n := 149) (by decide +kernel) rfl, by decide +kernel, by decide⟩, sT_in (n := 1669) (by decide +kernel) rfl, sT_in (n := 51) (by decide +kernel) rfl⟩
theorem yv_X12_amiss : yV yX12_amiss cX12_amiss 1 none 0 := ⟨⟨sT_in (n := 1720) (by decide +kernel) rfl, sT_in (n := 149) (by decide +kernel) rfl, by decide +kernel, by decide⟩, sT_in (n := 1719) (by decide +kernel) rfl, sT_in (n := 60) (by decide +kernel) rfl⟩
theorem yv_X12_count : yV yX12_count cX12_count 4 (some .int) 2 := ⟨⟨sT_in (n := 1716) (by decide +kernel) rfl, sT_in (n := 149) (by decide +kernel) rfl, by decide +kernel, by decide⟩, sT_in (n := 1715) (by decide +kernel) rfl, sT_in (n := 59) (by decide +kernel) rfl⟩
theorem yv_X12_fail : yV yX12_fail cX12_fail 3 none 2 := ⟨⟨sT_in (n := 1712) (by decide +kernel) rfl, sT_in (n := 149) (by decide +kernel) rfl, by decide +kernel, by decide⟩, sT_in (n := 1711) (by decide +kernel) rfl, sT_in (n := 58) (by decide +kernel) rfl⟩
theorem yv_X12_isGate : yV yX12_isGate cX12_isGate 1 (some .boolean) 0 := ⟨⟨sT_in (n := 1735) (by decide +kernel) rfl, sT_in (n := 149) (by decide +kernel) rfl, by decide +kernel, by decide⟩, sT_in (n := 1734) (by decide +kernel) rfl, sT_in (n := 63) (by decide +kernel) rfl⟩
theorem yv_X12_isWord : yV yX12_isWord cX12_isWord 3 (some .boolean) 1 := ⟨⟨sT_in (n := 1701) (by decide +kernel) rfl, sT_in (n := 149) (by decide +kernel) rfl, by decide +kernel, by decide⟩, sT_in (n := 1700) (by decide +kernel) rfl, sT_in (n := 56) (by decide +kernel) rfl⟩
/-! ClockRiverModel.starts -/
def X12_starts_J17 (μ : sM) : Option (Int32 × sM) :=
  bI (X12_no 5 μ) fun x1 μ2 =>
    if x1 = 0 ∨ x1 = 1 then some (x1, μ2) else none
theorem X12_starts_J17_ok (μ : sM) : sOk 12 cX12_starts 3 3 true 17 [(0, vr 13 0)] [] μ (oI (X12_starts_J17 μ)) := by
  unfold X12_starts_J17
  refine sBk (lo' := [(0, vr 13 0)]) (st' := [vi 5, vr 13 0]) (μ' := μ) (pc' := 19) [(.aload_n 0, 0, 0, 0, 0), (.iconst 5, 0, 0, 5, 0)] (by decide +kernel) rfl rfl ?_
  refine sCvI oI rfl (ci := 12) (q := (13, 0)) (avs := [vi 5]) (rest := []) (tX12_no 5 μ) (by decide) (by decide +kernel) lk_12_87 yv_X12_no rfl (by decide) rfl rfl rfl (Nat.le_of_ble_eq_true rfl) (fun x1 μ2 => ?_)
  exact sCk oI rfl (fun h => sRi (by decide +kernel) (fun _ => h))
def X12_starts (a1 : Int32) (a2 : Int32) (μ : sM) : Option (Int32 × sM) :=
  if a1 < 0 then
    X12_starts_J17 μ
  else
    if (rI μ 13 0 8) < a1 then
      X12_starts_J17 μ
    else
      if a1 ≤ a2 then
        bV (X12_advance (wI (wI (wI (wI μ 13 0 9 a1) 13 0 8 0) 13 0 16 0) 13 0 12 0)) fun μ2 =>
          some (1, μ2)
      else
        X12_starts_J17 μ
theorem tX12_starts (a1 : Int32) (a2 : Int32) (μ : sM) : sMt yX12_starts cX12_starts 3 (some .boolean) 3 [vr 13 0, vi a1, vi a2] μ (oI (X12_starts a1 a2 μ)) := by
  refine sMt_of (own := 12) (bl := true) (by decide +kernel) rfl (Nat.le_of_ble_eq_true rfl) (fun r ρ h => ?_) ?_
  · obtain ⟨q, -, hq⟩ := Option.map_eq_some_iff.mp h
    cases hq
    exact Or.inr ⟨rfl, rfl⟩
  · unfold X12_starts
    show sOk 12 cX12_starts 3 3 true 0 [(0, vr 13 0), (1, vi a1), (2, vi a2)] [] μ _
    refine sBk (lo' := [(0, vr 13 0), (1, vi a1), (2, vi a2)]) (st' := [vi a1]) (μ' := μ) (pc' := 1) [(.iload_n 1, 0, 0, 0, 0)] (by decide +kernel) rfl rfl ?_
    refine sIf_lt oI (off := 16) (tgt := 17) (by decide +kernel) (by decide) (fun _ => ?_) (fun _ => ?_)
    · refine sWk (lo' := [(0, vr 13 0)]) [0] rfl ?_
      exact X12_starts_J17_ok μ
    · refine sBk (lo' := [(0, vr 13 0), (1, vi a1), (2, vi a2)]) (st' := [vi (rI μ 13 0 8), vi a1]) (μ' := μ) (pc' := 9) [(.iload_n 1, 0, 0, 0, 0), (.aload_n 0, 0, 0, 0, 0), (.getfield 241, 12, 8, 0, 0)] (by decide +kernel) rfl rfl ?_
      refine sIc_gt oI (off := 8) (tgt := 17) (by decide +kernel) (by decide) (fun _ => ?_) (fun _ => ?_)
      · refine sWk (lo' := [(0, vr 13 0)]) [0] rfl ?_
        exact X12_starts_J17_ok μ
      · refine sBk (lo' := [(0, vr 13 0), (1, vi a1), (2, vi a2)]) (st' := [vi a2, vi a1]) (μ' := μ) (pc' := 14) [(.iload_n 1, 0, 0, 0, 0), (.iload_n 2, 0, 0, 0, 0)] (by decide +kernel) rfl rfl ?_
        refine sIc_le oI (off := 9) (tgt := 23) (by decide +kernel) (by decide) (fun _ => ?_) (fun _ => ?_)
        · refine sBk (lo' := [(0, vr 13 0), (1, vi a1), (2, vi a2)]) (st' := [vr 13 0]) (μ' := wI (wI (wI (wI μ 13 0 9 a1) 13 0 8 0) 13 0 16 0) 13 0 12 0) (pc' := 44) [(.aload_n 0, 0, 0, 0, 0), (.iload_n 1, 0, 0, 0, 0), (.putfield 111, 12, 9, 0, 0), (.aload_n 0, 0, 0, 0, 0), (.iconst 0, 0, 0, 0, 0), (.putfield 241, 12, 8, 0, 0), (.aload_n 0, 0, 0, 0, 0), (.iconst 0, 0, 0, 0, 0), (.putfield 114, 12, 16, 0, 0), (.aload_n 0, 0, 0, 0, 0), (.iconst 0, 0, 0, 0, 0), (.putfield 218, 12, 12, 0, 0), (.aload_n 0, 0, 0, 0, 0)] (by decide +kernel) rfl rfl ?_
          refine sCvV oI rfl (ci := 12) (q := (13, 0)) (avs := []) (rest := []) (tX12_advance (wI (wI (wI (wI μ 13 0 9 a1) 13 0 8 0) 13 0 16 0) 13 0 12 0)) (by decide) (by decide +kernel) lk_12_228 yv_X12_advance rfl (by decide) rfl rfl rfl (Nat.le_of_ble_eq_true rfl) (fun μ2 => ?_)
          refine sBk (lo' := [(0, vr 13 0), (1, vi a1), (2, vi a2)]) (st' := [vi 1]) (μ' := μ2) (pc' := 48) [(.iconst 1, 0, 0, 1, 0)] (by decide +kernel) rfl rfl ?_
          exact sRi (by decide +kernel) (fun _ => Or.inr rfl)
        · refine sWk (lo' := [(0, vr 13 0)]) [0] rfl ?_
          exact X12_starts_J17_ok μ
/-! ClockRiverModel.empties -/
def X12_empties_L8 : Nat → Int32 → Int32 → sM → Option sM
  | 0, _, _, _ => none
  | n + 1, v2, v3, μ =>
    if 348 ≤ v3 then
      if inb (v2 + 3) 1740 = true then
        if inb (v2 + 4) 1740 = true then
          if inb (v2 + 5) 1740 = true then
            some (wI (wI (wI μ 61 0 (ix (v2 + 3)) 1) 61 0 (ix (v2 + 4)) 5) 61 0 (ix (v2 + 5)) 4)
          else none
        else none
      else none
    else
      if inb (v2 + v3) 1740 = true then
        X12_empties_L8 n v2 (v3 + 1) (wI μ 61 0 (ix (v2 + v3)) 0)
      else none
theorem X12_empties_L8_ok : ∀ (n : Nat) (v2 : Int32) (v3 : Int32) (μ : sM), sOk 12 cX12_empties 4 1 false 8 [(0, vr 13 0), (2, vi v2), (3, vi v3)] [] μ (oV (X12_empties_L8 n v2 v3 μ)) := by
  intro n
  induction n with
  | zero =>
    intros
    exact sNo
  | succ n ih =>
    intro v2 v3 μ
    unfold X12_empties_L8
    refine sBk (lo' := [(0, vr 13 0), (2, vi v2), (3, vi v3)]) (st' := [vi 348, vi v3]) (μ' := μ) (pc' := 12) [(.iload_n 3, 0, 0, 0, 0), (.sipush 348, 0, 0, 348, 0)] (by decide +kernel) rfl rfl ?_
    refine sIc_ge oV (off := 18) (tgt := 30) (by decide +kernel) (by decide) (fun _ => ?_) (fun _ => ?_)
    · refine sBk (lo' := [(0, vr 13 0), (2, vi v2), (3, vi v3)]) (st' := [vi 1, vi (v2 + 3), vr 61 0]) (μ' := μ) (pc' := 38) [(.aload_n 0, 0, 0, 0, 0), (.getfield 35, 12, 20, 0, 0), (.iload_n 2, 0, 0, 0, 0), (.iconst 3, 0, 0, 3, 0), (.iadd, 0, 0, 0, 0), (.iconst 1, 0, 0, 1, 0)] (by decide +kernel) rfl rfl ?_
      refine sS_ias oV rfl (n := 1740) (j := (ix (v2 + 3))) (by decide +kernel) rfl rfl rfl (fun _ => ?_)
      refine sBk (lo' := [(0, vr 13 0), (2, vi v2), (3, vi v3)]) (st' := [vi 5, vi (v2 + 4), vr 61 0]) (μ' := wI μ 61 0 (ix (v2 + 3)) 1) (pc' := 47) [(.aload_n 0, 0, 0, 0, 0), (.getfield 35, 12, 20, 0, 0), (.iload_n 2, 0, 0, 0, 0), (.iconst 4, 0, 0, 4, 0), (.iadd, 0, 0, 0, 0), (.iconst 5, 0, 0, 5, 0)] (by decide +kernel) rfl rfl ?_
      refine sS_ias oV rfl (n := 1740) (j := (ix (v2 + 4))) (by decide +kernel) rfl rfl rfl (fun _ => ?_)
      refine sBk (lo' := [(0, vr 13 0), (2, vi v2), (3, vi v3)]) (st' := [vi 4, vi (v2 + 5), vr 61 0]) (μ' := wI (wI μ 61 0 (ix (v2 + 3)) 1) 61 0 (ix (v2 + 4)) 5) (pc' := 56) [(.aload_n 0, 0, 0, 0, 0), (.getfield 35, 12, 20, 0, 0), (.iload_n 2, 0, 0, 0, 0), (.iconst 5, 0, 0, 5, 0), (.iadd, 0, 0, 0, 0), (.iconst 4, 0, 0, 4, 0)] (by decide +kernel) rfl rfl ?_
      refine sS_ias oV rfl (n := 1740) (j := (ix (v2 + 5))) (by decide +kernel) rfl rfl rfl (fun _ => ?_)
      exact sRv (by decide +kernel)
    · refine sBk (lo' := [(0, vr 13 0), (2, vi v2), (3, vi v3)]) (st' := [vi 0, vi (v2 + v3), vr 61 0]) (μ' := μ) (pc' := 23) [(.aload_n 0, 0, 0, 0, 0), (.getfield 35, 12, 20, 0, 0), (.iload_n 2, 0, 0, 0, 0), (.iload_n 3, 0, 0, 0, 0), (.iadd, 0, 0, 0, 0), (.iconst 0, 0, 0, 0, 0)] (by decide +kernel) rfl rfl ?_
      refine sS_ias oV rfl (n := 1740) (j := (ix (v2 + v3))) (by decide +kernel) rfl rfl rfl (fun _ => ?_)
      refine sBk (lo' := [(3, vi (v3 + 1)), (0, vr 13 0), (2, vi v2)]) (st' := []) (μ' := wI μ 61 0 (ix (v2 + v3)) 0) (pc' := 27) [(.iinc 3 1, 0, 0, 1, 0)] (by decide +kernel) rfl rfl ?_
      refine sGt (off := (-19)) (tgt := 8) (by decide +kernel) (by decide) ?_
      refine sWk (lo' := [(0, vr 13 0), (2, vi v2), (3, vi (v3 + 1))]) [1, 2, 0] rfl ?_
      exact ih v2 (v3 + 1) (wI μ 61 0 (ix (v2 + v3)) 0)
def X12_empties (a1 : Int32) (μ : sM) : Option sM :=
  X12_empties_L8 fuN (348 * a1) 0 μ
theorem tX12_empties (a1 : Int32) (μ : sM) : sMt yX12_empties cX12_empties 4 none 1 [vr 13 0, vi a1] μ (oV (X12_empties a1 μ)) := by
  refine sMt_of (own := 12) (bl := false) (by decide +kernel) rfl (Nat.le_of_ble_eq_true rfl) (fun r ρ h => ?_) ?_
  · obtain ⟨q, -, hq⟩ := Option.map_eq_some_iff.mp h
    cases hq
    exact rfl
  · unfold X12_empties
    show sOk 12 cX12_empties 4 1 false 0 [(0, vr 13 0), (1, vi a1)] [] μ _
    refine sBk (lo' := [(3, vi 0), (2, vi (348 * a1)), (0, vr 13 0), (1, vi a1)]) (st' := []) (μ' := μ) (pc' := 8) [(.sipush 348, 0, 0, 348, 0), (.iload_n 1, 0, 0, 0, 0), (.imul, 0, 0, 0, 0), (.istore_n 2, 0, 0, 0, 0), (.iconst 0, 0, 0, 0, 0), (.istore_n 3, 0, 0, 0, 0)] (by decide +kernel) rfl rfl ?_
    refine sWk (lo' := [(0, vr 13 0), (2, vi (348 * a1)), (3, vi 0)]) [2, 1, 0] rfl ?_
    exact X12_empties_L8_ok fuN (348 * a1) 0 μ
/-! ClockRiverModel.spelled -/
def X12_spelled_J91 (v5 : Int32) (s0 : Int64) (μ : sM) : Option (Int64 × sM) :=
  if v5 ≤ 0 then
    some (s0, μ)
  else
    some ((((s0 * 32) + (Int32.toInt64 v5)) - 96), μ)
theorem X12_spelled_J91_ok (v5 : Int32) (s0 : Int64) (μ : sM) : sOk 12 cX12_spelled 8 1 false 91 [(5, vi v5)] [vl s0] μ (oL (X12_spelled_J91 v5 s0 μ)) := by
  unfold X12_spelled_J91
  refine sBk (lo' := [(6, vl s0), (5, vi v5)]) (st' := [vi v5]) (μ' := μ) (pc' := 95) [(.lstore 6, 0, 0, 0, 0), (.iload 5, 0, 0, 0, 0)] (by decide +kernel) rfl rfl ?_
  refine sIf_le oL (off := 20) (tgt := 115) (by decide +kernel) (by decide) (fun _ => ?_) (fun _ => ?_)
  · refine sBk (lo' := [(6, vl s0), (5, vi v5)]) (st' := [vl s0]) (μ' := μ) (pc' := 117) [(.lload 6, 0, 0, 0, 0)] (by decide +kernel) rfl rfl ?_
    exact sRl (by decide +kernel)
  · refine sBk (lo' := [(6, vl s0), (5, vi v5)]) (st' := [vl (((s0 * 32) + (Int32.toInt64 v5)) - 96)]) (μ' := μ) (pc' := 112) [(.lload 6, 0, 0, 0, 0), (.ldc2_w 132, 0, 0, 0, 32), (.lmul, 0, 0, 0, 0), (.iload 5, 0, 0, 0, 0), (.i2l, 0, 0, 0, 0), (.ladd, 0, 0, 0, 0), (.ldc2_w 134, 0, 0, 0, 96), (.lsub, 0, 0, 0, 0)] (by decide +kernel) rfl rfl ?_
    refine sGt (off := 5) (tgt := 117) (by decide +kernel) (by decide) ?_
    exact sRl (by decide +kernel)
def X12_spelled_J65 (v4 : Int32) (v5 : Int32) (s0 : Int64) (μ : sM) : Option (Int64 × sM) :=
  if v4 ≤ 0 then
    X12_spelled_J91 v5 s0 μ
  else
    X12_spelled_J91 v5 (((s0 * 32) + (Int32.toInt64 v4)) - 96) μ
theorem X12_spelled_J65_ok (v4 : Int32) (v5 : Int32) (s0 : Int64) (μ : sM) : sOk 12 cX12_spelled 8 1 false 65 [(4, vi v4), (5, vi v5)] [vl s0] μ (oL (X12_spelled_J65 v4 v5 s0 μ)) := by
  unfold X12_spelled_J65
  refine sBk (lo' := [(6, vl s0), (4, vi v4), (5, vi v5)]) (st' := [vi v4]) (μ' := μ) (pc' := 69) [(.lstore 6, 0, 0, 0, 0), (.iload 4, 0, 0, 0, 0)] (by decide +kernel) rfl rfl ?_
  refine sIf_le oL (off := 20) (tgt := 89) (by decide +kernel) (by decide) (fun _ => ?_) (fun _ => ?_)
  · refine sBk (lo' := [(6, vl s0), (4, vi v4), (5, vi v5)]) (st' := [vl s0]) (μ' := μ) (pc' := 91) [(.lload 6, 0, 0, 0, 0)] (by decide +kernel) rfl rfl ?_
    refine sWk (lo' := [(5, vi v5)]) [2] rfl ?_
    exact X12_spelled_J91_ok v5 s0 μ
  · refine sBk (lo' := [(6, vl s0), (4, vi v4), (5, vi v5)]) (st' := [vl (((s0 * 32) + (Int32.toInt64 v4)) - 96)]) (μ' := μ) (pc' := 86) [(.lload 6, 0, 0, 0, 0), (.ldc2_w 132, 0, 0, 0, 32), (.lmul, 0, 0, 0, 0), (.iload 4, 0, 0, 0, 0), (.i2l, 0, 0, 0, 0), (.ladd, 0, 0, 0, 0), (.ldc2_w 134, 0, 0, 0, 96), (.lsub, 0, 0, 0, 0)] (by decide +kernel) rfl rfl ?_
    refine sGt (off := 5) (tgt := 91) (by decide +kernel) (by decide) ?_
    refine sWk (lo' := [(5, vi v5)]) [2] rfl ?_
    exact X12_spelled_J91_ok v5 (((s0 * 32) + (Int32.toInt64 v4)) - 96) μ
def X12_spelled_J41 (v3 : Int32) (v4 : Int32) (v5 : Int32) (s0 : Int64) (μ : sM) : Option (Int64 × sM) :=
  if v3 ≤ 0 then
    X12_spelled_J65 v4 v5 s0 μ
  else
    X12_spelled_J65 v4 v5 (((s0 * 32) + (Int32.toInt64 v3)) - 96) μ
theorem X12_spelled_J41_ok (v3 : Int32) (v4 : Int32) (v5 : Int32) (s0 : Int64) (μ : sM) : sOk 12 cX12_spelled 8 1 false 41 [(3, vi v3), (4, vi v4), (5, vi v5)] [vl s0] μ (oL (X12_spelled_J41 v3 v4 v5 s0 μ)) := by
  unfold X12_spelled_J41
  refine sBk (lo' := [(6, vl s0), (3, vi v3), (4, vi v4), (5, vi v5)]) (st' := [vi v3]) (μ' := μ) (pc' := 44) [(.lstore 6, 0, 0, 0, 0), (.iload_n 3, 0, 0, 0, 0)] (by decide +kernel) rfl rfl ?_
  refine sIf_le oL (off := 19) (tgt := 63) (by decide +kernel) (by decide) (fun _ => ?_) (fun _ => ?_)
  · refine sBk (lo' := [(6, vl s0), (3, vi v3), (4, vi v4), (5, vi v5)]) (st' := [vl s0]) (μ' := μ) (pc' := 65) [(.lload 6, 0, 0, 0, 0)] (by decide +kernel) rfl rfl ?_
    refine sWk (lo' := [(4, vi v4), (5, vi v5)]) [2, 3] rfl ?_
    exact X12_spelled_J65_ok v4 v5 s0 μ
  · refine sBk (lo' := [(6, vl s0), (3, vi v3), (4, vi v4), (5, vi v5)]) (st' := [vl (((s0 * 32) + (Int32.toInt64 v3)) - 96)]) (μ' := μ) (pc' := 60) [(.lload 6, 0, 0, 0, 0), (.ldc2_w 132, 0, 0, 0, 32), (.lmul, 0, 0, 0, 0), (.iload_n 3, 0, 0, 0, 0), (.i2l, 0, 0, 0, 0), (.ladd, 0, 0, 0, 0), (.ldc2_w 134, 0, 0, 0, 96), (.lsub, 0, 0, 0, 0)] (by decide +kernel) rfl rfl ?_
    refine sGt (off := 5) (tgt := 65) (by decide +kernel) (by decide) ?_
    refine sWk (lo' := [(4, vi v4), (5, vi v5)]) [2, 3] rfl ?_
    exact X12_spelled_J65_ok v4 v5 (((s0 * 32) + (Int32.toInt64 v3)) - 96) μ
def X12_spelled (a0 : Int32) (a1 : Int32) (a2 : Int32) (a3 : Int32) (a4 : Int32) (a5 : Int32) (μ : sM) : Option (Int64 × sM) :=
  if a2 ≤ 0 then
    X12_spelled_J41 a3 a4 a5 (((((Int32.toInt64 a0) - 96) * 32) + (Int32.toInt64 a1)) - 96) μ
  else
    X12_spelled_J41 a3 a4 a5 ((((((((Int32.toInt64 a0) - 96) * 32) + (Int32.toInt64 a1)) - 96) * 32) + (Int32.toInt64 a2)) - 96) μ
theorem tX12_spelled (a0 : Int32) (a1 : Int32) (a2 : Int32) (a3 : Int32) (a4 : Int32) (a5 : Int32) (μ : sM) : sMt yX12_spelled cX12_spelled 8 (some .long) 1 [vi a0, vi a1, vi a2, vi a3, vi a4, vi a5] μ (oL (X12_spelled a0 a1 a2 a3 a4 a5 μ)) := by
  refine sMt_of (own := 12) (bl := false) (by decide +kernel) rfl (Nat.le_of_ble_eq_true rfl) (fun r ρ h => ?_) ?_
  · obtain ⟨q, -, hq⟩ := Option.map_eq_some_iff.mp h
    cases hq
    exact rfl
  · unfold X12_spelled
    show sOk 12 cX12_spelled 8 1 false 0 [(0, vi a0), (1, vi a1), (2, vi a2), (3, vi a3), (4, vi a4), (5, vi a5)] [] μ _
    refine sBk (lo' := [(6, vl (((((Int32.toInt64 a0) - 96) * 32) + (Int32.toInt64 a1)) - 96)), (0, vi a0), (1, vi a1), (2, vi a2), (3, vi a3), (4, vi a4), (5, vi a5)]) (st' := [vi a2]) (μ' := μ) (pc' := 20) [(.iload_n 0, 0, 0, 0, 0), (.i2l, 0, 0, 0, 0), (.ldc2_w 134, 0, 0, 0, 96), (.lsub, 0, 0, 0, 0), (.ldc2_w 132, 0, 0, 0, 32), (.lmul, 0, 0, 0, 0), (.iload_n 1, 0, 0, 0, 0), (.i2l, 0, 0, 0, 0), (.ladd, 0, 0, 0, 0), (.ldc2_w 134, 0, 0, 0, 96), (.lsub, 0, 0, 0, 0), (.lstore 6, 0, 0, 0, 0), (.iload_n 2, 0, 0, 0, 0)] (by decide +kernel) rfl rfl ?_
    refine sIf_le oL (off := 19) (tgt := 39) (by decide +kernel) (by decide) (fun _ => ?_) (fun _ => ?_)
    · refine sBk (lo' := [(6, vl (((((Int32.toInt64 a0) - 96) * 32) + (Int32.toInt64 a1)) - 96)), (0, vi a0), (1, vi a1), (2, vi a2), (3, vi a3), (4, vi a4), (5, vi a5)]) (st' := [vl (((((Int32.toInt64 a0) - 96) * 32) + (Int32.toInt64 a1)) - 96)]) (μ' := μ) (pc' := 41) [(.lload 6, 0, 0, 0, 0)] (by decide +kernel) rfl rfl ?_
      refine sWk (lo' := [(3, vi a3), (4, vi a4), (5, vi a5)]) [4, 5, 6] rfl ?_
      exact X12_spelled_J41_ok a3 a4 a5 (((((Int32.toInt64 a0) - 96) * 32) + (Int32.toInt64 a1)) - 96) μ
    · refine sBk (lo' := [(6, vl (((((Int32.toInt64 a0) - 96) * 32) + (Int32.toInt64 a1)) - 96)), (0, vi a0), (1, vi a1), (2, vi a2), (3, vi a3), (4, vi a4), (5, vi a5)]) (st' := [vl ((((((((Int32.toInt64 a0) - 96) * 32) + (Int32.toInt64 a1)) - 96) * 32) + (Int32.toInt64 a2)) - 96)]) (μ' := μ) (pc' := 36) [(.lload 6, 0, 0, 0, 0), (.ldc2_w 132, 0, 0, 0, 32), (.lmul, 0, 0, 0, 0), (.iload_n 2, 0, 0, 0, 0), (.i2l, 0, 0, 0, 0), (.ladd, 0, 0, 0, 0), (.ldc2_w 134, 0, 0, 0, 96), (.lsub, 0, 0, 0, 0)] (by decide +kernel) rfl rfl ?_
      refine sGt (off := 5) (tgt := 41) (by decide +kernel) (by decide) ?_
      refine sWk (lo' := [(3, vi a3), (4, vi a4), (5, vi a5)]) [4, 5, 6] rfl ?_
      exact X12_spelled_J41_ok a3 a4 a5 ((((((((Int32.toInt64 a0) - 96) * 32) + (Int32.toInt64 a1)) - 96) * 32) + (Int32.toInt64 a2)) - 96) μ
/-! ClockRiverModel.isWord -/
def X12_isWord (a1 : Int64) (μ : sM) : Option (Int32 × sM) :=
  if (rI μ 13 0 14) = 1 then
    if (lg_cmp (rL μ 13 0 19) a1) = 0 then
      some (1, μ)
    else
      some (0, μ)
  else
    some (0, μ)
theorem tX12_isWord (a1 : Int64) (μ : sM) : sMt yX12_isWord cX12_isWord 3 (some .boolean) 1 [vr 13 0, vl a1] μ (oI (X12_isWord a1 μ)) := by
  refine sMt_of (own := 12) (bl := true) (by decide +kernel) rfl (Nat.le_of_ble_eq_true rfl) (fun r ρ h => ?_) ?_
  · obtain ⟨q, -, hq⟩ := Option.map_eq_some_iff.mp h
    cases hq
    exact Or.inr ⟨rfl, rfl⟩
  · unfold X12_isWord
    show sOk 12 cX12_isWord 3 1 true 0 [(0, vr 13 0), (1, vl a1)] [] μ _
    refine sBk (lo' := [(0, vr 13 0), (1, vl a1)]) (st' := [vi 1, vi (rI μ 13 0 14)]) (μ' := μ) (pc' := 5) [(.aload_n 0, 0, 0, 0, 0), (.getfield 123, 12, 14, 0, 0), (.iconst 1, 0, 0, 1, 0)] (by decide +kernel) rfl rfl ?_
    refine sIc_ne oI (off := 16) (tgt := 21) (by decide +kernel) (by decide) (fun _ => ?_) (fun _ => ?_)
    · refine sBk (lo' := [(0, vr 13 0), (1, vl a1)]) (st' := [vi 0]) (μ' := μ) (pc' := 22) [(.iconst 0, 0, 0, 0, 0)] (by decide +kernel) rfl rfl ?_
      exact sRi (by decide +kernel) (fun _ => Or.inl rfl)
    · refine sBk (lo' := [(0, vr 13 0), (1, vl a1)]) (st' := [vi (lg_cmp (rL μ 13 0 19) a1)]) (μ' := μ) (pc' := 14) [(.aload_n 0, 0, 0, 0, 0), (.getfield 129, 12, 19, 0, 0), (.lload_n 1, 0, 0, 0, 0), (.lcmp, 0, 0, 0, 0)] (by decide +kernel) rfl rfl ?_
      refine sIf_ne oI (off := 7) (tgt := 21) (by decide +kernel) (by decide) (fun _ => ?_) (fun _ => ?_)
      · refine sBk (lo' := [(0, vr 13 0), (1, vl a1)]) (st' := [vi 0]) (μ' := μ) (pc' := 22) [(.iconst 0, 0, 0, 0, 0)] (by decide +kernel) rfl rfl ?_
        exact sRi (by decide +kernel) (fun _ => Or.inl rfl)
      · refine sBk (lo' := [(0, vr 13 0), (1, vl a1)]) (st' := [vi 1]) (μ' := μ) (pc' := 18) [(.iconst 1, 0, 0, 1, 0)] (by decide +kernel) rfl rfl ?_
        refine sGt (off := 4) (tgt := 22) (by decide +kernel) (by decide) ?_
        exact sRi (by decide +kernel) (fun _ => Or.inr rfl)
/-! ClockRiverModel.isTurns -/
def X12_isTurns (μ : sM) : Option (Int32 × sM) :=
  bL (X12_spelled 116 117 114 110 115 0 μ) fun x1 μ2 =>
    bI (X12_isWord x1 μ2) fun x3 μ4 =>
      if x3 = 0 ∨ x3 = 1 then some (x3, μ4) else none
theorem tX12_isTurns (μ : sM) : sMt yX12_isTurns cX12_isTurns 1 (some .boolean) 2 [vr 13 0] μ (oI (X12_isTurns μ)) := by
  refine sMt_of (own := 12) (bl := true) (by decide +kernel) rfl (Nat.le_of_ble_eq_true rfl) (fun r ρ h => ?_) ?_
  · obtain ⟨q, -, hq⟩ := Option.map_eq_some_iff.mp h
    cases hq
    exact Or.inr ⟨rfl, rfl⟩
  · unfold X12_isTurns
    show sOk 12 cX12_isTurns 1 2 true 0 [(0, vr 13 0)] [] μ _
    refine sBk (lo' := [(0, vr 13 0)]) (st' := [vi 0, vi 115, vi 110, vi 114, vi 117, vi 116, vr 13 0]) (μ' := μ) (pc' := 12) [(.aload_n 0, 0, 0, 0, 0), (.bipush 116, 0, 0, 116, 0), (.bipush 117, 0, 0, 117, 0), (.bipush 114, 0, 0, 114, 0), (.bipush 110, 0, 0, 110, 0), (.bipush 115, 0, 0, 115, 0), (.iconst 0, 0, 0, 0, 0)] (by decide +kernel) rfl rfl ?_
    refine sCsL oI rfl (avs := [vi 116, vi 117, vi 114, vi 110, vi 115, vi 0]) (rest := [vr 13 0]) (tX12_spelled 116 117 114 110 115 0 μ) (by decide) (by decide +kernel) lk_12_148 ys_X12_spelled rfl rfl (Nat.le_of_ble_eq_true rfl) (fun x1 μ2 => ?_)
    refine sCvI oI rfl (ci := 12) (q := (13, 0)) (avs := [vl x1]) (rest := []) (tX12_isWord x1 μ2) (by decide) (by decide +kernel) lk_12_152 yv_X12_isWord rfl (by decide) rfl rfl rfl (Nat.le_of_ble_eq_true rfl) (fun x3 μ4 => ?_)
    exact sCk oI rfl (fun h => sRi (by decide +kernel) (fun _ => h))
/-! ClockRiverModel.has -/
def X12_has (a0 : Int32) (a1 : Int32) (μ : sM) : Option (Int32 × sM) :=
  if ((isr a0 a1) &&& 1) = 1 then
    some (1, μ)
  else
    some (0, μ)
theorem tX12_has (a0 : Int32) (a1 : Int32) (μ : sM) : sMt yX12_has cX12_has 2 (some .boolean) 1 [vi a0, vi a1] μ (oI (X12_has a0 a1 μ)) := by
  refine sMt_of (own := 12) (bl := true) (by decide +kernel) rfl (Nat.le_of_ble_eq_true rfl) (fun r ρ h => ?_) ?_
  · obtain ⟨q, -, hq⟩ := Option.map_eq_some_iff.mp h
    cases hq
    exact Or.inr ⟨rfl, rfl⟩
  · unfold X12_has
    show sOk 12 cX12_has 2 1 true 0 [(0, vi a0), (1, vi a1)] [] μ _
    refine sBk (lo' := [(0, vi a0), (1, vi a1)]) (st' := [vi 1, vi ((isr a0 a1) &&& 1)]) (μ' := μ) (pc' := 6) [(.iload_n 0, 0, 0, 0, 0), (.iload_n 1, 0, 0, 0, 0), (.ishr, 0, 0, 0, 0), (.iconst 1, 0, 0, 1, 0), (.iand, 0, 0, 0, 0), (.iconst 1, 0, 0, 1, 0)] (by decide +kernel) rfl rfl ?_
    refine sIc_ne oI (off := 7) (tgt := 13) (by decide +kernel) (by decide) (fun _ => ?_) (fun _ => ?_)
    · refine sBk (lo' := [(0, vi a0), (1, vi a1)]) (st' := [vi 0]) (μ' := μ) (pc' := 14) [(.iconst 0, 0, 0, 0, 0)] (by decide +kernel) rfl rfl ?_
      exact sRi (by decide +kernel) (fun _ => Or.inl rfl)
    · refine sBk (lo' := [(0, vi a0), (1, vi a1)]) (st' := [vi 1]) (μ' := μ) (pc' := 10) [(.iconst 1, 0, 0, 1, 0)] (by decide +kernel) rfl rfl ?_
      refine sGt (off := 4) (tgt := 14) (by decide +kernel) (by decide) ?_
      exact sRi (by decide +kernel) (fun _ => Or.inr rfl)
/-! ClockRiverModel.fail -/
def X12_fail (a1 : Int32) (a2 : Int32) (μ : sM) : Option sM :=
  if (rI μ 13 0 12) ≤ 0 then
    some (wI (wI μ 13 0 12 a1) 13 0 13 a2)
  else
    some μ
theorem tX12_fail (a1 : Int32) (a2 : Int32) (μ : sM) : sMt yX12_fail cX12_fail 3 none 1 [vr 13 0, vi a1, vi a2] μ (oV (X12_fail a1 a2 μ)) := by
  refine sMt_of (own := 12) (bl := false) (by decide +kernel) rfl (Nat.le_of_ble_eq_true rfl) (fun r ρ h => ?_) ?_
  · obtain ⟨q, -, hq⟩ := Option.map_eq_some_iff.mp h
    cases hq
    exact rfl
  · unfold X12_fail
    show sOk 12 cX12_fail 3 1 false 0 [(0, vr 13 0), (1, vi a1), (2, vi a2)] [] μ _
    refine sBk (lo' := [(0, vr 13 0), (1, vi a1), (2, vi a2)]) (st' := [vi (rI μ 13 0 12)]) (μ' := μ) (pc' := 4) [(.aload_n 0, 0, 0, 0, 0), (.getfield 218, 12, 12, 0, 0)] (by decide +kernel) rfl rfl ?_
    refine sIf_le oV (off := 4) (tgt := 8) (by decide +kernel) (by decide) (fun _ => ?_) (fun _ => ?_)
    · refine sBk (lo' := [(0, vr 13 0), (1, vi a1), (2, vi a2)]) (st' := []) (μ' := wI (wI μ 13 0 12 a1) 13 0 13 a2) (pc' := 18) [(.aload_n 0, 0, 0, 0, 0), (.iload_n 1, 0, 0, 0, 0), (.putfield 218, 12, 12, 0, 0), (.aload_n 0, 0, 0, 0, 0), (.iload_n 2, 0, 0, 0, 0), (.putfield 221, 12, 13, 0, 0)] (by decide +kernel) rfl rfl ?_
      exact sRv (by decide +kernel)
    · exact sRv (by decide +kernel)
/-! ClockRiverModel.amiss -/
def X12_amiss_J14 (s0 : Int32) (μ : sM) : Option sM :=
  bV (X12_fail s0 (rI μ 13 0 15) μ) fun μ2 =>
    some μ2
theorem X12_amiss_J14_ok (s0 : Int32) (μ : sM) : sOk 12 cX12_amiss 1 2 false 14 [(0, vr 13 0)] [vi s0, vr 13 0] μ (oV (X12_amiss_J14 s0 μ)) := by
  unfold X12_amiss_J14
  refine sBk (lo' := [(0, vr 13 0)]) (st' := [vi (rI μ 13 0 15), vi s0, vr 13 0]) (μ' := μ) (pc' := 18) [(.aload_n 0, 0, 0, 0, 0), (.getfield 117, 12, 15, 0, 0)] (by decide +kernel) rfl rfl ?_
  refine sCvV oV rfl (ci := 12) (q := (13, 0)) (avs := [vi s0, vi (rI μ 13 0 15)]) (rest := []) (tX12_fail s0 (rI μ 13 0 15) μ) (by decide) (by decide +kernel) lk_12_224 yv_X12_fail rfl (by decide) rfl rfl rfl (Nat.le_of_ble_eq_true rfl) (fun μ2 => ?_)
  exact sRv (by decide +kernel)
def X12_amiss (μ : sM) : Option sM :=
  if (rI μ 13 0 14) = 4 then
    X12_amiss_J14 1 μ
  else
    X12_amiss_J14 2 μ
theorem tX12_amiss (μ : sM) : sMt yX12_amiss cX12_amiss 1 none 2 [vr 13 0] μ (oV (X12_amiss μ)) := by
  refine sMt_of (own := 12) (bl := false) (by decide +kernel) rfl (Nat.le_of_ble_eq_true rfl) (fun r ρ h => ?_) ?_
  · obtain ⟨q, -, hq⟩ := Option.map_eq_some_iff.mp h
    cases hq
    exact rfl
  · unfold X12_amiss
    show sOk 12 cX12_amiss 1 2 false 0 [(0, vr 13 0)] [] μ _
    refine sBk (lo' := [(0, vr 13 0)]) (st' := [vi 4, vi (rI μ 13 0 14), vr 13 0]) (μ' := μ) (pc' := 6) [(.aload_n 0, 0, 0, 0, 0), (.aload_n 0, 0, 0, 0, 0), (.getfield 123, 12, 14, 0, 0), (.iconst 4, 0, 0, 4, 0)] (by decide +kernel) rfl rfl ?_
    refine sIc_ne oV (off := 7) (tgt := 13) (by decide +kernel) (by decide) (fun _ => ?_) (fun _ => ?_)
    · refine sBk (lo' := [(0, vr 13 0)]) (st' := [vi 2, vr 13 0]) (μ' := μ) (pc' := 14) [(.iconst 2, 0, 0, 2, 0)] (by decide +kernel) rfl rfl ?_
      exact X12_amiss_J14_ok 2 μ
    · refine sBk (lo' := [(0, vr 13 0)]) (st' := [vi 1, vr 13 0]) (μ' := μ) (pc' := 10) [(.iconst 1, 0, 0, 1, 0)] (by decide +kernel) rfl rfl ?_
      refine sGt (off := 4) (tgt := 14) (by decide +kernel) (by decide) ?_
      exact X12_amiss_J14_ok 1 μ
/-! ClockRiverModel.isIn -/
def X12_isIn (a0 : Int64) (a2 : Int64) (a4 : Int64) (μ : sM) : Option (Int32 × sM) :=
  if (lg_cmp a0 a2) < 0 then
    some (0, μ)
  else
    if 0 < (lg_cmp a0 a4) then
      some (0, μ)
    else
      some (1, μ)
theorem tX12_isIn (a0 : Int64) (a2 : Int64) (a4 : Int64) (μ : sM) : sMt yX12_isIn cX12_isIn 6 (some .boolean) 1 [vl a0, vl a2, vl a4] μ (oI (X12_isIn a0 a2 a4 μ)) := by
  refine sMt_of (own := 12) (bl := true) (by decide +kernel) rfl (Nat.le_of_ble_eq_true rfl) (fun r ρ h => ?_) ?_
  · obtain ⟨q, -, hq⟩ := Option.map_eq_some_iff.mp h
    cases hq
    exact Or.inr ⟨rfl, rfl⟩
  · unfold X12_isIn
    show sOk 12 cX12_isIn 6 1 true 0 [(0, vl a0), (2, vl a2), (4, vl a4)] [] μ _
    refine sBk (lo' := [(0, vl a0), (2, vl a2), (4, vl a4)]) (st' := [vi (lg_cmp a0 a2)]) (μ' := μ) (pc' := 3) [(.lload_n 0, 0, 0, 0, 0), (.lload_n 2, 0, 0, 0, 0), (.lcmp, 0, 0, 0, 0)] (by decide +kernel) rfl rfl ?_
    refine sIf_lt oI (off := 14) (tgt := 17) (by decide +kernel) (by decide) (fun _ => ?_) (fun _ => ?_)
    · refine sBk (lo' := [(0, vl a0), (2, vl a2), (4, vl a4)]) (st' := [vi 0]) (μ' := μ) (pc' := 18) [(.iconst 0, 0, 0, 0, 0)] (by decide +kernel) rfl rfl ?_
      exact sRi (by decide +kernel) (fun _ => Or.inl rfl)
    · refine sBk (lo' := [(0, vl a0), (2, vl a2), (4, vl a4)]) (st' := [vi (lg_cmp a0 a4)]) (μ' := μ) (pc' := 10) [(.lload_n 0, 0, 0, 0, 0), (.lload 4, 0, 0, 0, 0), (.lcmp, 0, 0, 0, 0)] (by decide +kernel) rfl rfl ?_
      refine sIf_gt oI (off := 7) (tgt := 17) (by decide +kernel) (by decide) (fun _ => ?_) (fun _ => ?_)
      · refine sBk (lo' := [(0, vl a0), (2, vl a2), (4, vl a4)]) (st' := [vi 0]) (μ' := μ) (pc' := 18) [(.iconst 0, 0, 0, 0, 0)] (by decide +kernel) rfl rfl ?_
        exact sRi (by decide +kernel) (fun _ => Or.inl rfl)
      · refine sBk (lo' := [(0, vl a0), (2, vl a2), (4, vl a4)]) (st' := [vi 1]) (μ' := μ) (pc' := 14) [(.iconst 1, 0, 0, 1, 0)] (by decide +kernel) rfl rfl ?_
        refine sGt (off := 4) (tgt := 18) (by decide +kernel) (by decide) ?_
        exact sRi (by decide +kernel) (fun _ => Or.inr rfl)
/-! ClockRiverModel.count -/
def X12_count_J50 (μ : sM) : Option (Int32 × sM) :=
  if (rI μ 13 0 12) ≤ 0 then
    bV (X12_advance μ) fun μ2 =>
      some ((rI μ 13 0 17), μ2)
  else
    some (0, μ)
theorem X12_count_J50_ok (μ : sM) : sOk 12 cX12_count 4 3 false 50 [(0, vr 13 0)] [] μ (oI (X12_count_J50 μ)) := by
  unfold X12_count_J50
  refine sBk (lo' := [(0, vr 13 0)]) (st' := [vi (rI μ 13 0 12)]) (μ' := μ) (pc' := 54) [(.aload_n 0, 0, 0, 0, 0), (.getfield 218, 12, 12, 0, 0)] (by decide +kernel) rfl rfl ?_
  refine sIf_le oI (off := 5) (tgt := 59) (by decide +kernel) (by decide) (fun _ => ?_) (fun _ => ?_)
  · refine sBk (lo' := [(3, vi (rI μ 13 0 17)), (0, vr 13 0)]) (st' := [vr 13 0]) (μ' := μ) (pc' := 65) [(.aload_n 0, 0, 0, 0, 0), (.getfield 142, 12, 17, 0, 0), (.istore_n 3, 0, 0, 0, 0), (.aload_n 0, 0, 0, 0, 0)] (by decide +kernel) rfl rfl ?_
    refine sCvV oI rfl (ci := 12) (q := (13, 0)) (avs := []) (rest := []) (tX12_advance μ) (by decide) (by decide +kernel) lk_12_228 yv_X12_advance rfl (by decide) rfl rfl rfl (Nat.le_of_ble_eq_true rfl) (fun μ2 => ?_)
    refine sBk (lo' := [(3, vi (rI μ 13 0 17)), (0, vr 13 0)]) (st' := [vi (rI μ 13 0 17)]) (μ' := μ2) (pc' := 69) [(.iload_n 3, 0, 0, 0, 0)] (by decide +kernel) rfl rfl ?_
    exact sRi (by decide +kernel) (fun h => by cases h)
  · refine sBk (lo' := [(0, vr 13 0)]) (st' := [vi 0]) (μ' := μ) (pc' := 58) [(.iconst 0, 0, 0, 0, 0)] (by decide +kernel) rfl rfl ?_
    exact sRi (by decide +kernel) (fun h => by cases h)
def X12_count_J19 (v1 : Int32) (v2 : Int32) (μ : sM) : Option (Int32 × sM) :=
  if (rI μ 13 0 12) = 0 then
    bI (X12_isIn (Int32.toInt64 (rI μ 13 0 17)) (Int32.toInt64 v1) (Int32.toInt64 v2) μ) fun x1 μ2 =>
      if x1 = 0 then
        bV (X12_fail 4 (rI μ2 13 0 15) μ2) fun μ4 =>
          X12_count_J50 μ4
      else
        X12_count_J50 μ2
  else
    X12_count_J50 μ
theorem X12_count_J19_ok (v1 : Int32) (v2 : Int32) (μ : sM) : sOk 12 cX12_count 4 3 false 19 [(0, vr 13 0), (1, vi v1), (2, vi v2)] [] μ (oI (X12_count_J19 v1 v2 μ)) := by
  unfold X12_count_J19
  refine sBk (lo' := [(0, vr 13 0), (1, vi v1), (2, vi v2)]) (st' := [vi (rI μ 13 0 12)]) (μ' := μ) (pc' := 23) [(.aload_n 0, 0, 0, 0, 0), (.getfield 218, 12, 12, 0, 0)] (by decide +kernel) rfl rfl ?_
  refine sIf_ne oI (off := 27) (tgt := 50) (by decide +kernel) (by decide) (fun _ => ?_) (fun _ => ?_)
  · refine sWk (lo' := [(0, vr 13 0)]) [0] rfl ?_
    exact X12_count_J50_ok μ
  · refine sBk (lo' := [(0, vr 13 0), (1, vi v1), (2, vi v2)]) (st' := [vl (Int32.toInt64 v2), vl (Int32.toInt64 v1), vl (Int32.toInt64 (rI μ 13 0 17))]) (μ' := μ) (pc' := 35) [(.aload_n 0, 0, 0, 0, 0), (.getfield 142, 12, 17, 0, 0), (.i2l, 0, 0, 0, 0), (.iload_n 1, 0, 0, 0, 0), (.i2l, 0, 0, 0, 0), (.iload_n 2, 0, 0, 0, 0), (.i2l, 0, 0, 0, 0)] (by decide +kernel) rfl rfl ?_
    refine sCsI oI rfl (avs := [vl (Int32.toInt64 (rI μ 13 0 17)), vl (Int32.toInt64 v1), vl (Int32.toInt64 v2)]) (rest := []) (tX12_isIn (Int32.toInt64 (rI μ 13 0 17)) (Int32.toInt64 v1) (Int32.toInt64 v2) μ) (by decide) (by decide +kernel) lk_12_107 ys_X12_isIn rfl rfl (Nat.le_of_ble_eq_true rfl) (fun x1 μ2 => ?_)
    refine sIf_ne oI (off := 12) (tgt := 50) (by decide +kernel) (by decide) (fun _ => ?_) (fun _ => ?_)
    · refine sWk (lo' := [(0, vr 13 0)]) [0] rfl ?_
      exact X12_count_J50_ok μ2
    · refine sBk (lo' := [(0, vr 13 0), (1, vi v1), (2, vi v2)]) (st' := [vi (rI μ2 13 0 15), vi 4, vr 13 0]) (μ' := μ2) (pc' := 47) [(.aload_n 0, 0, 0, 0, 0), (.iconst 4, 0, 0, 4, 0), (.aload_n 0, 0, 0, 0, 0), (.getfield 117, 12, 15, 0, 0)] (by decide +kernel) rfl rfl ?_
      refine sCvV oI rfl (ci := 12) (q := (13, 0)) (avs := [vi 4, vi (rI μ2 13 0 15)]) (rest := []) (tX12_fail 4 (rI μ2 13 0 15) μ2) (by decide) (by decide +kernel) lk_12_224 yv_X12_fail rfl (by decide) rfl rfl rfl (Nat.le_of_ble_eq_true rfl) (fun μ4 => ?_)
      refine sWk (lo' := [(0, vr 13 0)]) [0] rfl ?_
      exact X12_count_J50_ok μ4
def X12_count (a1 : Int32) (a2 : Int32) (μ : sM) : Option (Int32 × sM) :=
  if (rI μ 13 0 12) = 0 then
    if (rI μ 13 0 14) = 2 then
      X12_count_J19 a1 a2 μ
    else
      bV (X12_amiss μ) fun μ2 =>
        X12_count_J19 a1 a2 μ2
  else
    X12_count_J19 a1 a2 μ
theorem tX12_count (a1 : Int32) (a2 : Int32) (μ : sM) : sMt yX12_count cX12_count 4 (some .int) 3 [vr 13 0, vi a1, vi a2] μ (oI (X12_count a1 a2 μ)) := by
  refine sMt_of (own := 12) (bl := false) (by decide +kernel) rfl (Nat.le_of_ble_eq_true rfl) (fun r ρ h => ?_) ?_
  · obtain ⟨q, -, hq⟩ := Option.map_eq_some_iff.mp h
    cases hq
    exact Or.inl rfl
  · unfold X12_count
    show sOk 12 cX12_count 4 3 false 0 [(0, vr 13 0), (1, vi a1), (2, vi a2)] [] μ _
    refine sBk (lo' := [(0, vr 13 0), (1, vi a1), (2, vi a2)]) (st' := [vi (rI μ 13 0 12)]) (μ' := μ) (pc' := 4) [(.aload_n 0, 0, 0, 0, 0), (.getfield 218, 12, 12, 0, 0)] (by decide +kernel) rfl rfl ?_
    refine sIf_ne oI (off := 15) (tgt := 19) (by decide +kernel) (by decide) (fun _ => ?_) (fun _ => ?_)
    · exact X12_count_J19_ok a1 a2 μ
    · refine sBk (lo' := [(0, vr 13 0), (1, vi a1), (2, vi a2)]) (st' := [vi 2, vi (rI μ 13 0 14)]) (μ' := μ) (pc' := 12) [(.aload_n 0, 0, 0, 0, 0), (.getfield 123, 12, 14, 0, 0), (.iconst 2, 0, 0, 2, 0)] (by decide +kernel) rfl rfl ?_
      refine sIc_eq oI (off := 7) (tgt := 19) (by decide +kernel) (by decide) (fun _ => ?_) (fun _ => ?_)
      · exact X12_count_J19_ok a1 a2 μ
      · refine sBk (lo' := [(0, vr 13 0), (1, vi a1), (2, vi a2)]) (st' := [vr 13 0]) (μ' := μ) (pc' := 16) [(.aload_n 0, 0, 0, 0, 0)] (by decide +kernel) rfl rfl ?_
        refine sCvV oI rfl (ci := 12) (q := (13, 0)) (avs := []) (rest := []) (tX12_amiss μ) (by decide) (by decide +kernel) lk_12_231 yv_X12_amiss rfl (by decide) rfl rfl rfl (Nat.le_of_ble_eq_true rfl) (fun μ2 => ?_)
        exact X12_count_J19_ok a1 a2 μ2
/-! ClockRiverModel.readOnce -/
def X12_readOnce_J20 (v1 : Int32) (v2 : Int32) (v3 : Int32) (μ : sM) : Option sM :=
  if (rI μ 13 0 12) ≤ 0 then
    bV (X12_advance (wI μ 13 0 25 ((rI μ 13 0 25) ||| (isl 1 v1)))) fun μ2 =>
      bI (X12_count 0 v3 μ2) fun x3 μ4 =>
        if inb (1392 + v2) 1740 = true then
          some (wI μ4 61 0 (ix (1392 + v2)) x3)
        else none
  else
    some μ
theorem X12_readOnce_J20_ok (v1 : Int32) (v2 : Int32) (v3 : Int32) (μ : sM) : sOk 12 cX12_readOnce 4 4 false 20 [(0, vr 13 0), (1, vi v1), (2, vi v2), (3, vi v3)] [] μ (oV (X12_readOnce_J20 v1 v2 v3 μ)) := by
  unfold X12_readOnce_J20
  refine sBk (lo' := [(0, vr 13 0), (1, vi v1), (2, vi v2), (3, vi v3)]) (st' := [vi (rI μ 13 0 12)]) (μ' := μ) (pc' := 24) [(.aload_n 0, 0, 0, 0, 0), (.getfield 218, 12, 12, 0, 0)] (by decide +kernel) rfl rfl ?_
  refine sIf_le oV (off := 4) (tgt := 28) (by decide +kernel) (by decide) (fun _ => ?_) (fun _ => ?_)
  · refine sBk (lo' := [(0, vr 13 0), (1, vi v1), (2, vi v2), (3, vi v3)]) (st' := [vr 13 0]) (μ' := wI μ 13 0 25 ((rI μ 13 0 25) ||| (isl 1 v1))) (pc' := 41) [(.aload_n 0, 0, 0, 0, 0), (.dup, 0, 0, 0, 0), (.getfield 259, 12, 25, 0, 0), (.iconst 1, 0, 0, 1, 0), (.iload_n 1, 0, 0, 0, 0), (.ishl, 0, 0, 0, 0), (.ior, 0, 0, 0, 0), (.putfield 259, 12, 25, 0, 0), (.aload_n 0, 0, 0, 0, 0)] (by decide +kernel) rfl rfl ?_
    refine sCvV oV rfl (ci := 12) (q := (13, 0)) (avs := []) (rest := []) (tX12_advance (wI μ 13 0 25 ((rI μ 13 0 25) ||| (isl 1 v1)))) (by decide) (by decide +kernel) lk_12_228 yv_X12_advance rfl (by decide) rfl rfl rfl (Nat.le_of_ble_eq_true rfl) (fun μ2 => ?_)
    refine sBk (lo' := [(0, vr 13 0), (1, vi v1), (2, vi v2), (3, vi v3)]) (st' := [vi v3, vi 0, vr 13 0, vi (1392 + v2), vr 61 0]) (μ' := μ2) (pc' := 56) [(.aload_n 0, 0, 0, 0, 0), (.getfield 35, 12, 20, 0, 0), (.sipush 1392, 0, 0, 1392, 0), (.iload_n 2, 0, 0, 0, 0), (.iadd, 0, 0, 0, 0), (.aload_n 0, 0, 0, 0, 0), (.iconst 0, 0, 0, 0, 0), (.iload_n 3, 0, 0, 0, 0)] (by decide +kernel) rfl rfl ?_
    refine sCvI oV rfl (ci := 12) (q := (13, 0)) (avs := [vi 0, vi v3]) (rest := [vi (1392 + v2), vr 61 0]) (tX12_count 0 v3 μ2) (by decide) (by decide +kernel) lk_12_238 yv_X12_count rfl (by decide) rfl rfl rfl (Nat.le_of_ble_eq_true rfl) (fun x3 μ4 => ?_)
    refine sS_ias oV rfl (n := 1740) (j := (ix (1392 + v2))) (by decide +kernel) rfl rfl rfl (fun _ => ?_)
    exact sRv (by decide +kernel)
  · exact sRv (by decide +kernel)
def X12_readOnce (a1 : Int32) (a2 : Int32) (a3 : Int32) (μ : sM) : Option sM :=
  bI (X12_has (rI μ 13 0 25) a1 μ) fun x1 μ2 =>
    if x1 = 0 then
      X12_readOnce_J20 a1 a2 a3 μ2
    else
      bV (X12_fail 5 (rI μ2 13 0 15) μ2) fun μ4 =>
        X12_readOnce_J20 a1 a2 a3 μ4
theorem tX12_readOnce (a1 : Int32) (a2 : Int32) (a3 : Int32) (μ : sM) : sMt yX12_readOnce cX12_readOnce 4 none 4 [vr 13 0, vi a1, vi a2, vi a3] μ (oV (X12_readOnce a1 a2 a3 μ)) := by
  refine sMt_of (own := 12) (bl := false) (by decide +kernel) rfl (Nat.le_of_ble_eq_true rfl) (fun r ρ h => ?_) ?_
  · obtain ⟨q, -, hq⟩ := Option.map_eq_some_iff.mp h
    cases hq
    exact rfl
  · unfold X12_readOnce
    show sOk 12 cX12_readOnce 4 4 false 0 [(0, vr 13 0), (1, vi a1), (2, vi a2), (3, vi a3)] [] μ _
    refine sBk (lo' := [(0, vr 13 0), (1, vi a1), (2, vi a2), (3, vi a3)]) (st' := [vi a1, vi (rI μ 13 0 25)]) (μ' := μ) (pc' := 5) [(.aload_n 0, 0, 0, 0, 0), (.getfield 259, 12, 25, 0, 0), (.iload_n 1, 0, 0, 0, 0)] (by decide +kernel) rfl rfl ?_
    refine sCsI oV rfl (avs := [vi (rI μ 13 0 25), vi a1]) (rest := []) (tX12_has (rI μ 13 0 25) a1 μ) (by decide) (by decide +kernel) lk_12_262 ys_X12_has rfl rfl (Nat.le_of_ble_eq_true rfl) (fun x1 μ2 => ?_)
    refine sIf_eq oV (off := 12) (tgt := 20) (by decide +kernel) (by decide) (fun _ => ?_) (fun _ => ?_)
    · exact X12_readOnce_J20_ok a1 a2 a3 μ2
    · refine sBk (lo' := [(0, vr 13 0), (1, vi a1), (2, vi a2), (3, vi a3)]) (st' := [vi (rI μ2 13 0 15), vi 5, vr 13 0]) (μ' := μ2) (pc' := 17) [(.aload_n 0, 0, 0, 0, 0), (.iconst 5, 0, 0, 5, 0), (.aload_n 0, 0, 0, 0, 0), (.getfield 117, 12, 15, 0, 0)] (by decide +kernel) rfl rfl ?_
      refine sCvV oV rfl (ci := 12) (q := (13, 0)) (avs := [vi 5, vi (rI μ2 13 0 15)]) (rest := []) (tX12_fail 5 (rI μ2 13 0 15) μ2) (by decide) (by decide +kernel) lk_12_224 yv_X12_fail rfl (by decide) rfl rfl rfl (Nat.le_of_ble_eq_true rfl) (fun μ4 => ?_)
      exact X12_readOnce_J20_ok a1 a2 a3 μ4
/-! ClockRiverModel.isSlack -/
def X12_isSlack (μ : sM) : Option (Int32 × sM) :=
  bL (X12_spelled 115 108 97 99 107 0 μ) fun x1 μ2 =>
    bI (X12_isWord x1 μ2) fun x3 μ4 =>
      if x3 = 0 ∨ x3 = 1 then some (x3, μ4) else none
theorem tX12_isSlack (μ : sM) : sMt yX12_isSlack cX12_isSlack 1 (some .boolean) 2 [vr 13 0] μ (oI (X12_isSlack μ)) := by
  refine sMt_of (own := 12) (bl := true) (by decide +kernel) rfl (Nat.le_of_ble_eq_true rfl) (fun r ρ h => ?_) ?_
  · obtain ⟨q, -, hq⟩ := Option.map_eq_some_iff.mp h
    cases hq
    exact Or.inr ⟨rfl, rfl⟩
  · unfold X12_isSlack
    show sOk 12 cX12_isSlack 1 2 true 0 [(0, vr 13 0)] [] μ _
    refine sBk (lo' := [(0, vr 13 0)]) (st' := [vi 0, vi 107, vi 99, vi 97, vi 108, vi 115, vr 13 0]) (μ' := μ) (pc' := 12) [(.aload_n 0, 0, 0, 0, 0), (.bipush 115, 0, 0, 115, 0), (.bipush 108, 0, 0, 108, 0), (.bipush 97, 0, 0, 97, 0), (.bipush 99, 0, 0, 99, 0), (.bipush 107, 0, 0, 107, 0), (.iconst 0, 0, 0, 0, 0)] (by decide +kernel) rfl rfl ?_
    refine sCsL oI rfl (avs := [vi 115, vi 108, vi 97, vi 99, vi 107, vi 0]) (rest := [vr 13 0]) (tX12_spelled 115 108 97 99 107 0 μ) (by decide) (by decide +kernel) lk_12_148 ys_X12_spelled rfl rfl (Nat.le_of_ble_eq_true rfl) (fun x1 μ2 => ?_)
    refine sCvI oI rfl (ci := 12) (q := (13, 0)) (avs := [vl x1]) (rest := []) (tX12_isWord x1 μ2) (by decide) (by decide +kernel) lk_12_152 yv_X12_isWord rfl (by decide) rfl rfl rfl (Nat.le_of_ble_eq_true rfl) (fun x3 μ4 => ?_)
    exact sCk oI rfl (fun h => sRi (by decide +kernel) (fun _ => h))
/-! ClockRiverModel.isGate -/
def X12_isGate (μ : sM) : Option (Int32 × sM) :=
  bL (X12_spelled 103 97 116 101 0 0 μ) fun x1 μ2 =>
    bI (X12_isWord x1 μ2) fun x3 μ4 =>
      if x3 = 0 ∨ x3 = 1 then some (x3, μ4) else none
theorem tX12_isGate (μ : sM) : sMt yX12_isGate cX12_isGate 1 (some .boolean) 2 [vr 13 0] μ (oI (X12_isGate μ)) := by
  refine sMt_of (own := 12) (bl := true) (by decide +kernel) rfl (Nat.le_of_ble_eq_true rfl) (fun r ρ h => ?_) ?_
  · obtain ⟨q, -, hq⟩ := Option.map_eq_some_iff.mp h
    cases hq
    exact Or.inr ⟨rfl, rfl⟩
  · unfold X12_isGate
    show sOk 12 cX12_isGate 1 2 true 0 [(0, vr 13 0)] [] μ _
    refine sBk (lo' := [(0, vr 13 0)]) (st' := [vi 0, vi 0, vi 101, vi 116, vi 97, vi 103, vr 13 0]) (μ' := μ) (pc' := 11) [(.aload_n 0, 0, 0, 0, 0), (.bipush 103, 0, 0, 103, 0), (.bipush 97, 0, 0, 97, 0), (.bipush 116, 0, 0, 116, 0), (.bipush 101, 0, 0, 101, 0), (.iconst 0, 0, 0, 0, 0), (.iconst 0, 0, 0, 0, 0)] (by decide +kernel) rfl rfl ?_
    refine sCsL oI rfl (avs := [vi 103, vi 97, vi 116, vi 101, vi 0, vi 0]) (rest := [vr 13 0]) (tX12_spelled 103 97 116 101 0 0 μ) (by decide) (by decide +kernel) lk_12_148 ys_X12_spelled rfl rfl (Nat.le_of_ble_eq_true rfl) (fun x1 μ2 => ?_)
    refine sCvI oI rfl (ci := 12) (q := (13, 0)) (avs := [vl x1]) (rest := []) (tX12_isWord x1 μ2) (by decide) (by decide +kernel) lk_12_152 yv_X12_isWord rfl (by decide) rfl rfl rfl (Nat.le_of_ble_eq_true rfl) (fun x3 μ4 => ?_)
    exact sCk oI rfl (fun h => sRi (by decide +kernel) (fun _ => h))
/-! ClockRiverModel.stepWord -/
def X12_stepWord (μ : sM) : Option (Int32 × sM) :=
  bL (X12_spelled 104 111 117 114 0 0 μ) fun x1 μ2 =>
    bI (X12_isWord x1 μ2) fun x3 μ4 =>
      if x3 = 0 then
        bL (X12_spelled 119 105 110 100 0 0 μ4) fun x5 μ6 =>
          bI (X12_isWord x5 μ6) fun x7 μ8 =>
            if x7 = 0 then
              bL (X12_spelled 111 105 108 0 0 0 μ8) fun x9 μ10 =>
                bI (X12_isWord x9 μ10) fun x11 μ12 =>
                  if x11 = 0 then
                    bI (X12_isGate μ12) fun x13 μ14 =>
                      if x13 = 0 then
                        bL (X12_spelled 114 97 105 110 0 0 μ14) fun x15 μ16 =>
                          bI (X12_isWord x15 μ16) fun x17 μ18 =>
                            if x17 = 0 then
                              bL (X12_spelled 100 114 121 0 0 0 μ18) fun x19 μ20 =>
                                bI (X12_isWord x19 μ20) fun x21 μ22 =>
                                  if x21 = 0 then
                                    bL (X12_spelled 97 110 121 0 0 0 μ22) fun x23 μ24 =>
                                      bI (X12_isWord x23 μ24) fun x25 μ26 =>
                                        if x25 = 0 then
                                          bL (X12_spelled 119 104 101 110 0 0 μ26) fun x27 μ28 =>
                                            bI (X12_isWord x27 μ28) fun x29 μ30 =>
                                              if x29 = 0 then
                                                bL (X12_spelled 108 111 111 112 0 0 μ30) fun x31 μ32 =>
                                                  bI (X12_isWord x31 μ32) fun x33 μ34 =>
                                                    if x33 = 0 then
                                                      bL (X12_spelled 115 116 111 112 0 0 μ34) fun x35 μ36 =>
                                                        bI (X12_isWord x35 μ36) fun x37 μ38 =>
                                                          if x37 = 0 then
                                                            some ((-1), μ38)
                                                          else
                                                            some (9, μ38)
                                                    else
                                                      some (8, μ34)
                                              else
                                                some (7, μ30)
                                        else
                                          some (6, μ26)
                                  else
                                    some (5, μ22)
                            else
                              some (4, μ18)
                      else
                        some (3, μ14)
                  else
                    some (2, μ12)
            else
              some (1, μ8)
      else
        some (0, μ4)
theorem tX12_stepWord (μ : sM) : sMt yX12_stepWord cX12_stepWord 1 (some .int) 3 [vr 13 0] μ (oI (X12_stepWord μ)) := by
  refine sMt_of (own := 12) (bl := false) (by decide +kernel) rfl (Nat.le_of_ble_eq_true rfl) (fun r ρ h => ?_) ?_
  · obtain ⟨q, -, hq⟩ := Option.map_eq_some_iff.mp h
    cases hq
    exact Or.inl rfl
  · unfold X12_stepWord
    show sOk 12 cX12_stepWord 1 3 false 0 [(0, vr 13 0)] [] μ _
    refine sBk (lo' := [(0, vr 13 0)]) (st' := [vi 0, vi 0, vi 114, vi 117, vi 111, vi 104, vr 13 0]) (μ' := μ) (pc' := 11) [(.aload_n 0, 0, 0, 0, 0), (.bipush 104, 0, 0, 104, 0), (.bipush 111, 0, 0, 111, 0), (.bipush 117, 0, 0, 117, 0), (.bipush 114, 0, 0, 114, 0), (.iconst 0, 0, 0, 0, 0), (.iconst 0, 0, 0, 0, 0)] (by decide +kernel) rfl rfl ?_
    refine sCsL oI rfl (avs := [vi 104, vi 111, vi 117, vi 114, vi 0, vi 0]) (rest := [vr 13 0]) (tX12_spelled 104 111 117 114 0 0 μ) (by decide) (by decide +kernel) lk_12_148 ys_X12_spelled rfl rfl (Nat.le_of_ble_eq_true rfl) (fun x1 μ2 => ?_)
    refine sCvI oI rfl (ci := 12) (q := (13, 0)) (avs := [vl x1]) (rest := []) (tX12_isWord x1 μ2) (by decide) (by decide +kernel) lk_12_152 yv_X12_isWord rfl (by decide) rfl rfl rfl (Nat.le_of_ble_eq_true rfl) (fun x3 μ4 => ?_)
    refine sIf_eq oI (off := 5) (tgt := 22) (by decide +kernel) (by decide) (fun _ => ?_) (fun _ => ?_)
    · refine sBk (lo' := [(0, vr 13 0)]) (st' := [vi 0, vi 0, vi 100, vi 110, vi 105, vi 119, vr 13 0]) (μ' := μ4) (pc' := 33) [(.aload_n 0, 0, 0, 0, 0), (.bipush 119, 0, 0, 119, 0), (.bipush 105, 0, 0, 105, 0), (.bipush 110, 0, 0, 110, 0), (.bipush 100, 0, 0, 100, 0), (.iconst 0, 0, 0, 0, 0), (.iconst 0, 0, 0, 0, 0)] (by decide +kernel) rfl rfl ?_
      refine sCsL oI rfl (avs := [vi 119, vi 105, vi 110, vi 100, vi 0, vi 0]) (rest := [vr 13 0]) (tX12_spelled 119 105 110 100 0 0 μ4) (by decide) (by decide +kernel) lk_12_148 ys_X12_spelled rfl rfl (Nat.le_of_ble_eq_true rfl) (fun x5 μ6 => ?_)
      refine sCvI oI rfl (ci := 12) (q := (13, 0)) (avs := [vl x5]) (rest := []) (tX12_isWord x5 μ6) (by decide) (by decide +kernel) lk_12_152 yv_X12_isWord rfl (by decide) rfl rfl rfl (Nat.le_of_ble_eq_true rfl) (fun x7 μ8 => ?_)
      refine sIf_eq oI (off := 5) (tgt := 44) (by decide +kernel) (by decide) (fun _ => ?_) (fun _ => ?_)
      · refine sBk (lo' := [(0, vr 13 0)]) (st' := [vi 0, vi 0, vi 0, vi 108, vi 105, vi 111, vr 13 0]) (μ' := μ8) (pc' := 54) [(.aload_n 0, 0, 0, 0, 0), (.bipush 111, 0, 0, 111, 0), (.bipush 105, 0, 0, 105, 0), (.bipush 108, 0, 0, 108, 0), (.iconst 0, 0, 0, 0, 0), (.iconst 0, 0, 0, 0, 0), (.iconst 0, 0, 0, 0, 0)] (by decide +kernel) rfl rfl ?_
        refine sCsL oI rfl (avs := [vi 111, vi 105, vi 108, vi 0, vi 0, vi 0]) (rest := [vr 13 0]) (tX12_spelled 111 105 108 0 0 0 μ8) (by decide) (by decide +kernel) lk_12_148 ys_X12_spelled rfl rfl (Nat.le_of_ble_eq_true rfl) (fun x9 μ10 => ?_)
        refine sCvI oI rfl (ci := 12) (q := (13, 0)) (avs := [vl x9]) (rest := []) (tX12_isWord x9 μ10) (by decide) (by decide +kernel) lk_12_152 yv_X12_isWord rfl (by decide) rfl rfl rfl (Nat.le_of_ble_eq_true rfl) (fun x11 μ12 => ?_)
        refine sIf_eq oI (off := 5) (tgt := 65) (by decide +kernel) (by decide) (fun _ => ?_) (fun _ => ?_)
        · refine sBk (lo' := [(0, vr 13 0)]) (st' := [vr 13 0]) (μ' := μ12) (pc' := 66) [(.aload_n 0, 0, 0, 0, 0)] (by decide +kernel) rfl rfl ?_
          refine sCvI oI rfl (ci := 12) (q := (13, 0)) (avs := []) (rest := []) (tX12_isGate μ12) (by decide) (by decide +kernel) lk_12_160 yv_X12_isGate rfl (by decide) rfl rfl rfl (Nat.le_of_ble_eq_true rfl) (fun x13 μ14 => ?_)
          refine sIf_eq oI (off := 5) (tgt := 74) (by decide +kernel) (by decide) (fun _ => ?_) (fun _ => ?_)
          · refine sBk (lo' := [(0, vr 13 0)]) (st' := [vi 0, vi 0, vi 110, vi 105, vi 97, vi 114, vr 13 0]) (μ' := μ14) (pc' := 85) [(.aload_n 0, 0, 0, 0, 0), (.bipush 114, 0, 0, 114, 0), (.bipush 97, 0, 0, 97, 0), (.bipush 105, 0, 0, 105, 0), (.bipush 110, 0, 0, 110, 0), (.iconst 0, 0, 0, 0, 0), (.iconst 0, 0, 0, 0, 0)] (by decide +kernel) rfl rfl ?_
            refine sCsL oI rfl (avs := [vi 114, vi 97, vi 105, vi 110, vi 0, vi 0]) (rest := [vr 13 0]) (tX12_spelled 114 97 105 110 0 0 μ14) (by decide) (by decide +kernel) lk_12_148 ys_X12_spelled rfl rfl (Nat.le_of_ble_eq_true rfl) (fun x15 μ16 => ?_)
            refine sCvI oI rfl (ci := 12) (q := (13, 0)) (avs := [vl x15]) (rest := []) (tX12_isWord x15 μ16) (by decide) (by decide +kernel) lk_12_152 yv_X12_isWord rfl (by decide) rfl rfl rfl (Nat.le_of_ble_eq_true rfl) (fun x17 μ18 => ?_)
            refine sIf_eq oI (off := 5) (tgt := 96) (by decide +kernel) (by decide) (fun _ => ?_) (fun _ => ?_)
            · refine sBk (lo' := [(0, vr 13 0)]) (st' := [vi 0, vi 0, vi 0, vi 121, vi 114, vi 100, vr 13 0]) (μ' := μ18) (pc' := 106) [(.aload_n 0, 0, 0, 0, 0), (.bipush 100, 0, 0, 100, 0), (.bipush 114, 0, 0, 114, 0), (.bipush 121, 0, 0, 121, 0), (.iconst 0, 0, 0, 0, 0), (.iconst 0, 0, 0, 0, 0), (.iconst 0, 0, 0, 0, 0)] (by decide +kernel) rfl rfl ?_
              refine sCsL oI rfl (avs := [vi 100, vi 114, vi 121, vi 0, vi 0, vi 0]) (rest := [vr 13 0]) (tX12_spelled 100 114 121 0 0 0 μ18) (by decide) (by decide +kernel) lk_12_148 ys_X12_spelled rfl rfl (Nat.le_of_ble_eq_true rfl) (fun x19 μ20 => ?_)
              refine sCvI oI rfl (ci := 12) (q := (13, 0)) (avs := [vl x19]) (rest := []) (tX12_isWord x19 μ20) (by decide) (by decide +kernel) lk_12_152 yv_X12_isWord rfl (by decide) rfl rfl rfl (Nat.le_of_ble_eq_true rfl) (fun x21 μ22 => ?_)
              refine sIf_eq oI (off := 5) (tgt := 117) (by decide +kernel) (by decide) (fun _ => ?_) (fun _ => ?_)
              · refine sBk (lo' := [(0, vr 13 0)]) (st' := [vi 0, vi 0, vi 0, vi 121, vi 110, vi 97, vr 13 0]) (μ' := μ22) (pc' := 127) [(.aload_n 0, 0, 0, 0, 0), (.bipush 97, 0, 0, 97, 0), (.bipush 110, 0, 0, 110, 0), (.bipush 121, 0, 0, 121, 0), (.iconst 0, 0, 0, 0, 0), (.iconst 0, 0, 0, 0, 0), (.iconst 0, 0, 0, 0, 0)] (by decide +kernel) rfl rfl ?_
                refine sCsL oI rfl (avs := [vi 97, vi 110, vi 121, vi 0, vi 0, vi 0]) (rest := [vr 13 0]) (tX12_spelled 97 110 121 0 0 0 μ22) (by decide) (by decide +kernel) lk_12_148 ys_X12_spelled rfl rfl (Nat.le_of_ble_eq_true rfl) (fun x23 μ24 => ?_)
                refine sCvI oI rfl (ci := 12) (q := (13, 0)) (avs := [vl x23]) (rest := []) (tX12_isWord x23 μ24) (by decide) (by decide +kernel) lk_12_152 yv_X12_isWord rfl (by decide) rfl rfl rfl (Nat.le_of_ble_eq_true rfl) (fun x25 μ26 => ?_)
                refine sIf_eq oI (off := 6) (tgt := 139) (by decide +kernel) (by decide) (fun _ => ?_) (fun _ => ?_)
                · refine sBk (lo' := [(0, vr 13 0)]) (st' := [vi 0, vi 0, vi 110, vi 101, vi 104, vi 119, vr 13 0]) (μ' := μ26) (pc' := 150) [(.aload_n 0, 0, 0, 0, 0), (.bipush 119, 0, 0, 119, 0), (.bipush 104, 0, 0, 104, 0), (.bipush 101, 0, 0, 101, 0), (.bipush 110, 0, 0, 110, 0), (.iconst 0, 0, 0, 0, 0), (.iconst 0, 0, 0, 0, 0)] (by decide +kernel) rfl rfl ?_
                  refine sCsL oI rfl (avs := [vi 119, vi 104, vi 101, vi 110, vi 0, vi 0]) (rest := [vr 13 0]) (tX12_spelled 119 104 101 110 0 0 μ26) (by decide) (by decide +kernel) lk_12_148 ys_X12_spelled rfl rfl (Nat.le_of_ble_eq_true rfl) (fun x27 μ28 => ?_)
                  refine sCvI oI rfl (ci := 12) (q := (13, 0)) (avs := [vl x27]) (rest := []) (tX12_isWord x27 μ28) (by decide) (by decide +kernel) lk_12_152 yv_X12_isWord rfl (by decide) rfl rfl rfl (Nat.le_of_ble_eq_true rfl) (fun x29 μ30 => ?_)
                  refine sIf_eq oI (off := 6) (tgt := 162) (by decide +kernel) (by decide) (fun _ => ?_) (fun _ => ?_)
                  · refine sBk (lo' := [(0, vr 13 0)]) (st' := [vi 0, vi 0, vi 112, vi 111, vi 111, vi 108, vr 13 0]) (μ' := μ30) (pc' := 173) [(.aload_n 0, 0, 0, 0, 0), (.bipush 108, 0, 0, 108, 0), (.bipush 111, 0, 0, 111, 0), (.bipush 111, 0, 0, 111, 0), (.bipush 112, 0, 0, 112, 0), (.iconst 0, 0, 0, 0, 0), (.iconst 0, 0, 0, 0, 0)] (by decide +kernel) rfl rfl ?_
                    refine sCsL oI rfl (avs := [vi 108, vi 111, vi 111, vi 112, vi 0, vi 0]) (rest := [vr 13 0]) (tX12_spelled 108 111 111 112 0 0 μ30) (by decide) (by decide +kernel) lk_12_148 ys_X12_spelled rfl rfl (Nat.le_of_ble_eq_true rfl) (fun x31 μ32 => ?_)
                    refine sCvI oI rfl (ci := 12) (q := (13, 0)) (avs := [vl x31]) (rest := []) (tX12_isWord x31 μ32) (by decide) (by decide +kernel) lk_12_152 yv_X12_isWord rfl (by decide) rfl rfl rfl (Nat.le_of_ble_eq_true rfl) (fun x33 μ34 => ?_)
                    refine sIf_eq oI (off := 6) (tgt := 185) (by decide +kernel) (by decide) (fun _ => ?_) (fun _ => ?_)
                    · refine sBk (lo' := [(0, vr 13 0)]) (st' := [vi 0, vi 0, vi 112, vi 111, vi 116, vi 115, vr 13 0]) (μ' := μ34) (pc' := 196) [(.aload_n 0, 0, 0, 0, 0), (.bipush 115, 0, 0, 115, 0), (.bipush 116, 0, 0, 116, 0), (.bipush 111, 0, 0, 111, 0), (.bipush 112, 0, 0, 112, 0), (.iconst 0, 0, 0, 0, 0), (.iconst 0, 0, 0, 0, 0)] (by decide +kernel) rfl rfl ?_
                      refine sCsL oI rfl (avs := [vi 115, vi 116, vi 111, vi 112, vi 0, vi 0]) (rest := [vr 13 0]) (tX12_spelled 115 116 111 112 0 0 μ34) (by decide) (by decide +kernel) lk_12_148 ys_X12_spelled rfl rfl (Nat.le_of_ble_eq_true rfl) (fun x35 μ36 => ?_)
                      refine sCvI oI rfl (ci := 12) (q := (13, 0)) (avs := [vl x35]) (rest := []) (tX12_isWord x35 μ36) (by decide) (by decide +kernel) lk_12_152 yv_X12_isWord rfl (by decide) rfl rfl rfl (Nat.le_of_ble_eq_true rfl) (fun x37 μ38 => ?_)
                      refine sIf_eq oI (off := 8) (tgt := 210) (by decide +kernel) (by decide) (fun _ => ?_) (fun _ => ?_)
                      · refine sBk (lo' := [(0, vr 13 0)]) (st' := [vi (-1)]) (μ' := μ38) (pc' := 211) [(.iconst (-1), 0, 0, (-1), 0)] (by decide +kernel) rfl rfl ?_
                        exact sRi (by decide +kernel) (fun h => by cases h)
                      · refine sBk (lo' := [(0, vr 13 0)]) (st' := [vi 9]) (μ' := μ38) (pc' := 207) [(.bipush 9, 0, 0, 9, 0)] (by decide +kernel) rfl rfl ?_
                        refine sGt (off := 4) (tgt := 211) (by decide +kernel) (by decide) ?_
                        exact sRi (by decide +kernel) (fun h => by cases h)
                    · refine sBk (lo' := [(0, vr 13 0)]) (st' := [vi 8]) (μ' := μ34) (pc' := 184) [(.bipush 8, 0, 0, 8, 0)] (by decide +kernel) rfl rfl ?_
                      exact sRi (by decide +kernel) (fun h => by cases h)
                  · refine sBk (lo' := [(0, vr 13 0)]) (st' := [vi 7]) (μ' := μ30) (pc' := 161) [(.bipush 7, 0, 0, 7, 0)] (by decide +kernel) rfl rfl ?_
                    exact sRi (by decide +kernel) (fun h => by cases h)
                · refine sBk (lo' := [(0, vr 13 0)]) (st' := [vi 6]) (μ' := μ26) (pc' := 138) [(.bipush 6, 0, 0, 6, 0)] (by decide +kernel) rfl rfl ?_
                  exact sRi (by decide +kernel) (fun h => by cases h)
              · refine sBk (lo' := [(0, vr 13 0)]) (st' := [vi 5]) (μ' := μ22) (pc' := 116) [(.iconst 5, 0, 0, 5, 0)] (by decide +kernel) rfl rfl ?_
                exact sRi (by decide +kernel) (fun h => by cases h)
            · refine sBk (lo' := [(0, vr 13 0)]) (st' := [vi 4]) (μ' := μ18) (pc' := 95) [(.iconst 4, 0, 0, 4, 0)] (by decide +kernel) rfl rfl ?_
              exact sRi (by decide +kernel) (fun h => by cases h)
          · refine sBk (lo' := [(0, vr 13 0)]) (st' := [vi 3]) (μ' := μ14) (pc' := 73) [(.iconst 3, 0, 0, 3, 0)] (by decide +kernel) rfl rfl ?_
            exact sRi (by decide +kernel) (fun h => by cases h)
        · refine sBk (lo' := [(0, vr 13 0)]) (st' := [vi 2]) (μ' := μ12) (pc' := 64) [(.iconst 2, 0, 0, 2, 0)] (by decide +kernel) rfl rfl ?_
          exact sRi (by decide +kernel) (fun h => by cases h)
      · refine sBk (lo' := [(0, vr 13 0)]) (st' := [vi 1]) (μ' := μ8) (pc' := 43) [(.iconst 1, 0, 0, 1, 0)] (by decide +kernel) rfl rfl ?_
        exact sRi (by decide +kernel) (fun h => by cases h)
    · refine sBk (lo' := [(0, vr 13 0)]) (st' := [vi 0]) (μ' := μ4) (pc' := 21) [(.iconst 0, 0, 0, 0, 0)] (by decide +kernel) rfl rfl ?_
      exact sRi (by decide +kernel) (fun h => by cases h)
/-! ClockRiverModel.isOdds -/
def X12_isOdds (μ : sM) : Option (Int32 × sM) :=
  bL (X12_spelled 111 100 100 115 0 0 μ) fun x1 μ2 =>
    bI (X12_isWord x1 μ2) fun x3 μ4 =>
      if x3 = 0 ∨ x3 = 1 then some (x3, μ4) else none
theorem tX12_isOdds (μ : sM) : sMt yX12_isOdds cX12_isOdds 1 (some .boolean) 2 [vr 13 0] μ (oI (X12_isOdds μ)) := by
  refine sMt_of (own := 12) (bl := true) (by decide +kernel) rfl (Nat.le_of_ble_eq_true rfl) (fun r ρ h => ?_) ?_
  · obtain ⟨q, -, hq⟩ := Option.map_eq_some_iff.mp h
    cases hq
    exact Or.inr ⟨rfl, rfl⟩
  · unfold X12_isOdds
    show sOk 12 cX12_isOdds 1 2 true 0 [(0, vr 13 0)] [] μ _
    refine sBk (lo' := [(0, vr 13 0)]) (st' := [vi 0, vi 0, vi 115, vi 100, vi 100, vi 111, vr 13 0]) (μ' := μ) (pc' := 11) [(.aload_n 0, 0, 0, 0, 0), (.bipush 111, 0, 0, 111, 0), (.bipush 100, 0, 0, 100, 0), (.bipush 100, 0, 0, 100, 0), (.bipush 115, 0, 0, 115, 0), (.iconst 0, 0, 0, 0, 0), (.iconst 0, 0, 0, 0, 0)] (by decide +kernel) rfl rfl ?_
    refine sCsL oI rfl (avs := [vi 111, vi 100, vi 100, vi 115, vi 0, vi 0]) (rest := [vr 13 0]) (tX12_spelled 111 100 100 115 0 0 μ) (by decide) (by decide +kernel) lk_12_148 ys_X12_spelled rfl rfl (Nat.le_of_ble_eq_true rfl) (fun x1 μ2 => ?_)
    refine sCvI oI rfl (ci := 12) (q := (13, 0)) (avs := [vl x1]) (rest := []) (tX12_isWord x1 μ2) (by decide) (by decide +kernel) lk_12_152 yv_X12_isWord rfl (by decide) rfl rfl rfl (Nat.le_of_ble_eq_true rfl) (fun x3 μ4 => ?_)
    exact sCk oI rfl (fun h => sRi (by decide +kernel) (fun _ => h))
/-! ClockRiverModel.isReach -/
def X12_isReach (μ : sM) : Option (Int32 × sM) :=
  bL (X12_spelled 114 101 97 99 104 0 μ) fun x1 μ2 =>
    bI (X12_isWord x1 μ2) fun x3 μ4 =>
      if x3 = 0 ∨ x3 = 1 then some (x3, μ4) else none
theorem tX12_isReach (μ : sM) : sMt yX12_isReach cX12_isReach 1 (some .boolean) 2 [vr 13 0] μ (oI (X12_isReach μ)) := by
  refine sMt_of (own := 12) (bl := true) (by decide +kernel) rfl (Nat.le_of_ble_eq_true rfl) (fun r ρ h => ?_) ?_
  · obtain ⟨q, -, hq⟩ := Option.map_eq_some_iff.mp h
    cases hq
    exact Or.inr ⟨rfl, rfl⟩
  · unfold X12_isReach
    show sOk 12 cX12_isReach 1 2 true 0 [(0, vr 13 0)] [] μ _
    refine sBk (lo' := [(0, vr 13 0)]) (st' := [vi 0, vi 104, vi 99, vi 97, vi 101, vi 114, vr 13 0]) (μ' := μ) (pc' := 12) [(.aload_n 0, 0, 0, 0, 0), (.bipush 114, 0, 0, 114, 0), (.bipush 101, 0, 0, 101, 0), (.bipush 97, 0, 0, 97, 0), (.bipush 99, 0, 0, 99, 0), (.bipush 104, 0, 0, 104, 0), (.iconst 0, 0, 0, 0, 0)] (by decide +kernel) rfl rfl ?_
    refine sCsL oI rfl (avs := [vi 114, vi 101, vi 97, vi 99, vi 104, vi 0]) (rest := [vr 13 0]) (tX12_spelled 114 101 97 99 104 0 μ) (by decide) (by decide +kernel) lk_12_148 ys_X12_spelled rfl rfl (Nat.le_of_ble_eq_true rfl) (fun x1 μ2 => ?_)
    refine sCvI oI rfl (ci := 12) (q := (13, 0)) (avs := [vl x1]) (rest := []) (tX12_isWord x1 μ2) (by decide) (by decide +kernel) lk_12_152 yv_X12_isWord rfl (by decide) rfl rfl rfl (Nat.le_of_ble_eq_true rfl) (fun x3 μ4 => ?_)
    exact sCk oI rfl (fun h => sRi (by decide +kernel) (fun _ => h))
/-! ClockRiverModel.isBank -/
def X12_isBank (μ : sM) : Option (Int32 × sM) :=
  bL (X12_spelled 98 97 110 107 0 0 μ) fun x1 μ2 =>
    bI (X12_isWord x1 μ2) fun x3 μ4 =>
      if x3 = 0 ∨ x3 = 1 then some (x3, μ4) else none
theorem tX12_isBank (μ : sM) : sMt yX12_isBank cX12_isBank 1 (some .boolean) 2 [vr 13 0] μ (oI (X12_isBank μ)) := by
  refine sMt_of (own := 12) (bl := true) (by decide +kernel) rfl (Nat.le_of_ble_eq_true rfl) (fun r ρ h => ?_) ?_
  · obtain ⟨q, -, hq⟩ := Option.map_eq_some_iff.mp h
    cases hq
    exact Or.inr ⟨rfl, rfl⟩
  · unfold X12_isBank
    show sOk 12 cX12_isBank 1 2 true 0 [(0, vr 13 0)] [] μ _
    refine sBk (lo' := [(0, vr 13 0)]) (st' := [vi 0, vi 0, vi 107, vi 110, vi 97, vi 98, vr 13 0]) (μ' := μ) (pc' := 11) [(.aload_n 0, 0, 0, 0, 0), (.bipush 98, 0, 0, 98, 0), (.bipush 97, 0, 0, 97, 0), (.bipush 110, 0, 0, 110, 0), (.bipush 107, 0, 0, 107, 0), (.iconst 0, 0, 0, 0, 0), (.iconst 0, 0, 0, 0, 0)] (by decide +kernel) rfl rfl ?_
    refine sCsL oI rfl (avs := [vi 98, vi 97, vi 110, vi 107, vi 0, vi 0]) (rest := [vr 13 0]) (tX12_spelled 98 97 110 107 0 0 μ) (by decide) (by decide +kernel) lk_12_148 ys_X12_spelled rfl rfl (Nat.le_of_ble_eq_true rfl) (fun x1 μ2 => ?_)
    refine sCvI oI rfl (ci := 12) (q := (13, 0)) (avs := [vl x1]) (rest := []) (tX12_isWord x1 μ2) (by decide) (by decide +kernel) lk_12_152 yv_X12_isWord rfl (by decide) rfl rfl rfl (Nat.le_of_ble_eq_true rfl) (fun x3 μ4 => ?_)
    exact sCk oI rfl (fun h => sRi (by decide +kernel) (fun _ => h))
/-! ClockRiverModel.isHolds -/
def X12_isHolds (μ : sM) : Option (Int32 × sM) :=
  bL (X12_spelled 104 111 108 100 115 0 μ) fun x1 μ2 =>
    bI (X12_isWord x1 μ2) fun x3 μ4 =>
      if x3 = 0 ∨ x3 = 1 then some (x3, μ4) else none
theorem tX12_isHolds (μ : sM) : sMt yX12_isHolds cX12_isHolds 1 (some .boolean) 2 [vr 13 0] μ (oI (X12_isHolds μ)) := by
  refine sMt_of (own := 12) (bl := true) (by decide +kernel) rfl (Nat.le_of_ble_eq_true rfl) (fun r ρ h => ?_) ?_
  · obtain ⟨q, -, hq⟩ := Option.map_eq_some_iff.mp h
    cases hq
    exact Or.inr ⟨rfl, rfl⟩
  · unfold X12_isHolds
    show sOk 12 cX12_isHolds 1 2 true 0 [(0, vr 13 0)] [] μ _
    refine sBk (lo' := [(0, vr 13 0)]) (st' := [vi 0, vi 115, vi 100, vi 108, vi 111, vi 104, vr 13 0]) (μ' := μ) (pc' := 12) [(.aload_n 0, 0, 0, 0, 0), (.bipush 104, 0, 0, 104, 0), (.bipush 111, 0, 0, 111, 0), (.bipush 108, 0, 0, 108, 0), (.bipush 100, 0, 0, 100, 0), (.bipush 115, 0, 0, 115, 0), (.iconst 0, 0, 0, 0, 0)] (by decide +kernel) rfl rfl ?_
    refine sCsL oI rfl (avs := [vi 104, vi 111, vi 108, vi 100, vi 115, vi 0]) (rest := [vr 13 0]) (tX12_spelled 104 111 108 100 115 0 μ) (by decide) (by decide +kernel) lk_12_148 ys_X12_spelled rfl rfl (Nat.le_of_ble_eq_true rfl) (fun x1 μ2 => ?_)
    refine sCvI oI rfl (ci := 12) (q := (13, 0)) (avs := [vl x1]) (rest := []) (tX12_isWord x1 μ2) (by decide) (by decide +kernel) lk_12_152 yv_X12_isWord rfl (by decide) rfl rfl rfl (Nat.le_of_ble_eq_true rfl) (fun x3 μ4 => ?_)
    exact sCk oI rfl (fun h => sRi (by decide +kernel) (fun _ => h))
/-! ClockRiverModel.isMill -/
def X12_isMill (μ : sM) : Option (Int32 × sM) :=
  bL (X12_spelled 109 105 108 108 0 0 μ) fun x1 μ2 =>
    bI (X12_isWord x1 μ2) fun x3 μ4 =>
      if x3 = 0 ∨ x3 = 1 then some (x3, μ4) else none
theorem tX12_isMill (μ : sM) : sMt yX12_isMill cX12_isMill 1 (some .boolean) 2 [vr 13 0] μ (oI (X12_isMill μ)) := by
  refine sMt_of (own := 12) (bl := true) (by decide +kernel) rfl (Nat.le_of_ble_eq_true rfl) (fun r ρ h => ?_) ?_
  · obtain ⟨q, -, hq⟩ := Option.map_eq_some_iff.mp h
    cases hq
    exact Or.inr ⟨rfl, rfl⟩
  · unfold X12_isMill
    show sOk 12 cX12_isMill 1 2 true 0 [(0, vr 13 0)] [] μ _
    refine sBk (lo' := [(0, vr 13 0)]) (st' := [vi 0, vi 0, vi 108, vi 108, vi 105, vi 109, vr 13 0]) (μ' := μ) (pc' := 11) [(.aload_n 0, 0, 0, 0, 0), (.bipush 109, 0, 0, 109, 0), (.bipush 105, 0, 0, 105, 0), (.bipush 108, 0, 0, 108, 0), (.bipush 108, 0, 0, 108, 0), (.iconst 0, 0, 0, 0, 0), (.iconst 0, 0, 0, 0, 0)] (by decide +kernel) rfl rfl ?_
    refine sCsL oI rfl (avs := [vi 109, vi 105, vi 108, vi 108, vi 0, vi 0]) (rest := [vr 13 0]) (tX12_spelled 109 105 108 108 0 0 μ) (by decide) (by decide +kernel) lk_12_148 ys_X12_spelled rfl rfl (Nat.le_of_ble_eq_true rfl) (fun x1 μ2 => ?_)
    refine sCvI oI rfl (ci := 12) (q := (13, 0)) (avs := [vl x1]) (rest := []) (tX12_isWord x1 μ2) (by decide) (by decide +kernel) lk_12_152 yv_X12_isWord rfl (by decide) rfl rfl rfl (Nat.le_of_ble_eq_true rfl) (fun x3 μ4 => ?_)
    exact sCk oI rfl (fun h => sRi (by decide +kernel) (fun _ => h))
/-! ClockRiverModel.isAt -/
def X12_isAt (μ : sM) : Option (Int32 × sM) :=
  bL (X12_spelled 97 116 0 0 0 0 μ) fun x1 μ2 =>
    bI (X12_isWord x1 μ2) fun x3 μ4 =>
      if x3 = 0 ∨ x3 = 1 then some (x3, μ4) else none
theorem tX12_isAt (μ : sM) : sMt yX12_isAt cX12_isAt 1 (some .boolean) 2 [vr 13 0] μ (oI (X12_isAt μ)) := by
  refine sMt_of (own := 12) (bl := true) (by decide +kernel) rfl (Nat.le_of_ble_eq_true rfl) (fun r ρ h => ?_) ?_
  · obtain ⟨q, -, hq⟩ := Option.map_eq_some_iff.mp h
    cases hq
    exact Or.inr ⟨rfl, rfl⟩
  · unfold X12_isAt
    show sOk 12 cX12_isAt 1 2 true 0 [(0, vr 13 0)] [] μ _
    refine sBk (lo' := [(0, vr 13 0)]) (st' := [vi 0, vi 0, vi 0, vi 0, vi 116, vi 97, vr 13 0]) (μ' := μ) (pc' := 9) [(.aload_n 0, 0, 0, 0, 0), (.bipush 97, 0, 0, 97, 0), (.bipush 116, 0, 0, 116, 0), (.iconst 0, 0, 0, 0, 0), (.iconst 0, 0, 0, 0, 0), (.iconst 0, 0, 0, 0, 0), (.iconst 0, 0, 0, 0, 0)] (by decide +kernel) rfl rfl ?_
    refine sCsL oI rfl (avs := [vi 97, vi 116, vi 0, vi 0, vi 0, vi 0]) (rest := [vr 13 0]) (tX12_spelled 97 116 0 0 0 0 μ) (by decide) (by decide +kernel) lk_12_148 ys_X12_spelled rfl rfl (Nat.le_of_ble_eq_true rfl) (fun x1 μ2 => ?_)
    refine sCvI oI rfl (ci := 12) (q := (13, 0)) (avs := [vl x1]) (rest := []) (tX12_isWord x1 μ2) (by decide) (by decide +kernel) lk_12_152 yv_X12_isWord rfl (by decide) rfl rfl rfl (Nat.le_of_ble_eq_true rfl) (fun x3 μ4 => ?_)
    exact sCk oI rfl (fun h => sRi (by decide +kernel) (fun _ => h))
/-! ClockRiverModel.isNeeds -/
def X12_isNeeds (μ : sM) : Option (Int32 × sM) :=
  bL (X12_spelled 110 101 101 100 115 0 μ) fun x1 μ2 =>
    bI (X12_isWord x1 μ2) fun x3 μ4 =>
      if x3 = 0 ∨ x3 = 1 then some (x3, μ4) else none
theorem tX12_isNeeds (μ : sM) : sMt yX12_isNeeds cX12_isNeeds 1 (some .boolean) 2 [vr 13 0] μ (oI (X12_isNeeds μ)) := by
  refine sMt_of (own := 12) (bl := true) (by decide +kernel) rfl (Nat.le_of_ble_eq_true rfl) (fun r ρ h => ?_) ?_
  · obtain ⟨q, -, hq⟩ := Option.map_eq_some_iff.mp h
    cases hq
    exact Or.inr ⟨rfl, rfl⟩
  · unfold X12_isNeeds
    show sOk 12 cX12_isNeeds 1 2 true 0 [(0, vr 13 0)] [] μ _
    refine sBk (lo' := [(0, vr 13 0)]) (st' := [vi 0, vi 115, vi 100, vi 101, vi 101, vi 110, vr 13 0]) (μ' := μ) (pc' := 12) [(.aload_n 0, 0, 0, 0, 0), (.bipush 110, 0, 0, 110, 0), (.bipush 101, 0, 0, 101, 0), (.bipush 101, 0, 0, 101, 0), (.bipush 100, 0, 0, 100, 0), (.bipush 115, 0, 0, 115, 0), (.iconst 0, 0, 0, 0, 0)] (by decide +kernel) rfl rfl ?_
    refine sCsL oI rfl (avs := [vi 110, vi 101, vi 101, vi 100, vi 115, vi 0]) (rest := [vr 13 0]) (tX12_spelled 110 101 101 100 115 0 μ) (by decide) (by decide +kernel) lk_12_148 ys_X12_spelled rfl rfl (Nat.le_of_ble_eq_true rfl) (fun x1 μ2 => ?_)
    refine sCvI oI rfl (ci := 12) (q := (13, 0)) (avs := [vl x1]) (rest := []) (tX12_isWord x1 μ2) (by decide) (by decide +kernel) lk_12_152 yv_X12_isWord rfl (by decide) rfl rfl rfl (Nat.le_of_ble_eq_true rfl) (fun x3 μ4 => ?_)
    exact sCk oI rfl (fun h => sRi (by decide +kernel) (fun _ => h))
/-! ClockRiverModel.isWinder -/
def X12_isWinder (μ : sM) : Option (Int32 × sM) :=
  bL (X12_spelled 119 105 110 100 101 114 μ) fun x1 μ2 =>
    bI (X12_isWord x1 μ2) fun x3 μ4 =>
      if x3 = 0 ∨ x3 = 1 then some (x3, μ4) else none
theorem tX12_isWinder (μ : sM) : sMt yX12_isWinder cX12_isWinder 1 (some .boolean) 2 [vr 13 0] μ (oI (X12_isWinder μ)) := by
  refine sMt_of (own := 12) (bl := true) (by decide +kernel) rfl (Nat.le_of_ble_eq_true rfl) (fun r ρ h => ?_) ?_
  · obtain ⟨q, -, hq⟩ := Option.map_eq_some_iff.mp h
    cases hq
    exact Or.inr ⟨rfl, rfl⟩
  · unfold X12_isWinder
    show sOk 12 cX12_isWinder 1 2 true 0 [(0, vr 13 0)] [] μ _
    refine sBk (lo' := [(0, vr 13 0)]) (st' := [vi 114, vi 101, vi 100, vi 110, vi 105, vi 119, vr 13 0]) (μ' := μ) (pc' := 13) [(.aload_n 0, 0, 0, 0, 0), (.bipush 119, 0, 0, 119, 0), (.bipush 105, 0, 0, 105, 0), (.bipush 110, 0, 0, 110, 0), (.bipush 100, 0, 0, 100, 0), (.bipush 101, 0, 0, 101, 0), (.bipush 114, 0, 0, 114, 0)] (by decide +kernel) rfl rfl ?_
    refine sCsL oI rfl (avs := [vi 119, vi 105, vi 110, vi 100, vi 101, vi 114]) (rest := [vr 13 0]) (tX12_spelled 119 105 110 100 101 114 μ) (by decide) (by decide +kernel) lk_12_148 ys_X12_spelled rfl rfl (Nat.le_of_ble_eq_true rfl) (fun x1 μ2 => ?_)
    refine sCvI oI rfl (ci := 12) (q := (13, 0)) (avs := [vl x1]) (rest := []) (tX12_isWord x1 μ2) (by decide) (by decide +kernel) lk_12_152 yv_X12_isWord rfl (by decide) rfl rfl rfl (Nat.le_of_ble_eq_true rfl) (fun x3 μ4 => ?_)
    exact sCk oI rfl (fun h => sRi (by decide +kernel) (fun _ => h))
/-! ClockRiverModel.isStrength -/
def X12_isStrength (μ : sM) : Option (Int32 × sM) :=
  bL (X12_spelled 115 116 114 101 110 103 μ) fun x1 μ2 =>
    bI (X12_isWord ((((x1 * 32) + 20) * 32) + 8) μ2) fun x3 μ4 =>
      if x3 = 0 ∨ x3 = 1 then some (x3, μ4) else none
theorem tX12_isStrength (μ : sM) : sMt yX12_isStrength cX12_isStrength 1 (some .boolean) 2 [vr 13 0] μ (oI (X12_isStrength μ)) := by
  refine sMt_of (own := 12) (bl := true) (by decide +kernel) rfl (Nat.le_of_ble_eq_true rfl) (fun r ρ h => ?_) ?_
  · obtain ⟨q, -, hq⟩ := Option.map_eq_some_iff.mp h
    cases hq
    exact Or.inr ⟨rfl, rfl⟩
  · unfold X12_isStrength
    show sOk 12 cX12_isStrength 1 2 true 0 [(0, vr 13 0)] [] μ _
    refine sBk (lo' := [(0, vr 13 0)]) (st' := [vi 103, vi 110, vi 101, vi 114, vi 116, vi 115, vr 13 0]) (μ' := μ) (pc' := 13) [(.aload_n 0, 0, 0, 0, 0), (.bipush 115, 0, 0, 115, 0), (.bipush 116, 0, 0, 116, 0), (.bipush 114, 0, 0, 114, 0), (.bipush 101, 0, 0, 101, 0), (.bipush 110, 0, 0, 110, 0), (.bipush 103, 0, 0, 103, 0)] (by decide +kernel) rfl rfl ?_
    refine sCsL oI rfl (avs := [vi 115, vi 116, vi 114, vi 101, vi 110, vi 103]) (rest := [vr 13 0]) (tX12_spelled 115 116 114 101 110 103 μ) (by decide) (by decide +kernel) lk_12_148 ys_X12_spelled rfl rfl (Nat.le_of_ble_eq_true rfl) (fun x1 μ2 => ?_)
    refine sBk (lo' := [(0, vr 13 0)]) (st' := [vl ((((x1 * 32) + 20) * 32) + 8), vr 13 0]) (μ' := μ2) (pc' := 32) [(.ldc2_w 132, 0, 0, 0, 32), (.lmul, 0, 0, 0, 0), (.ldc2_w 156, 0, 0, 0, 20), (.ladd, 0, 0, 0, 0), (.ldc2_w 132, 0, 0, 0, 32), (.lmul, 0, 0, 0, 0), (.ldc2_w 158, 0, 0, 0, 8), (.ladd, 0, 0, 0, 0)] (by decide +kernel) rfl rfl ?_
    refine sCvI oI rfl (ci := 12) (q := (13, 0)) (avs := [vl ((((x1 * 32) + 20) * 32) + 8)]) (rest := []) (tX12_isWord ((((x1 * 32) + 20) * 32) + 8) μ2) (by decide) (by decide +kernel) lk_12_152 yv_X12_isWord rfl (by decide) rfl rfl rfl (Nat.le_of_ble_eq_true rfl) (fun x3 μ4 => ?_)
    exact sCk oI rfl (fun h => sRi (by decide +kernel) (fun _ => h))
/-! ClockRiverModel.isWage -/
def X12_isWage (μ : sM) : Option (Int32 × sM) :=
  bL (X12_spelled 119 97 103 101 0 0 μ) fun x1 μ2 =>
    bI (X12_isWord x1 μ2) fun x3 μ4 =>
      if x3 = 0 ∨ x3 = 1 then some (x3, μ4) else none
theorem tX12_isWage (μ : sM) : sMt yX12_isWage cX12_isWage 1 (some .boolean) 2 [vr 13 0] μ (oI (X12_isWage μ)) := by
  refine sMt_of (own := 12) (bl := true) (by decide +kernel) rfl (Nat.le_of_ble_eq_true rfl) (fun r ρ h => ?_) ?_
  · obtain ⟨q, -, hq⟩ := Option.map_eq_some_iff.mp h
    cases hq
    exact Or.inr ⟨rfl, rfl⟩
  · unfold X12_isWage
    show sOk 12 cX12_isWage 1 2 true 0 [(0, vr 13 0)] [] μ _
    refine sBk (lo' := [(0, vr 13 0)]) (st' := [vi 0, vi 0, vi 101, vi 103, vi 97, vi 119, vr 13 0]) (μ' := μ) (pc' := 11) [(.aload_n 0, 0, 0, 0, 0), (.bipush 119, 0, 0, 119, 0), (.bipush 97, 0, 0, 97, 0), (.bipush 103, 0, 0, 103, 0), (.bipush 101, 0, 0, 101, 0), (.iconst 0, 0, 0, 0, 0), (.iconst 0, 0, 0, 0, 0)] (by decide +kernel) rfl rfl ?_
    refine sCsL oI rfl (avs := [vi 119, vi 97, vi 103, vi 101, vi 0, vi 0]) (rest := [vr 13 0]) (tX12_spelled 119 97 103 101 0 0 μ) (by decide) (by decide +kernel) lk_12_148 ys_X12_spelled rfl rfl (Nat.le_of_ble_eq_true rfl) (fun x1 μ2 => ?_)
    refine sCvI oI rfl (ci := 12) (q := (13, 0)) (avs := [vl x1]) (rest := []) (tX12_isWord x1 μ2) (by decide) (by decide +kernel) lk_12_152 yv_X12_isWord rfl (by decide) rfl rfl rfl (Nat.le_of_ble_eq_true rfl) (fun x3 μ4 => ?_)
    exact sCk oI rfl (fun h => sRi (by decide +kernel) (fun _ => h))
/-! ClockRiverModel.isBack -/
def X12_isBack (μ : sM) : Option (Int32 × sM) :=
  bL (X12_spelled 98 97 99 107 0 0 μ) fun x1 μ2 =>
    bI (X12_isWord x1 μ2) fun x3 μ4 =>
      if x3 = 0 ∨ x3 = 1 then some (x3, μ4) else none
theorem tX12_isBack (μ : sM) : sMt yX12_isBack cX12_isBack 1 (some .boolean) 2 [vr 13 0] μ (oI (X12_isBack μ)) := by
  refine sMt_of (own := 12) (bl := true) (by decide +kernel) rfl (Nat.le_of_ble_eq_true rfl) (fun r ρ h => ?_) ?_
  · obtain ⟨q, -, hq⟩ := Option.map_eq_some_iff.mp h
    cases hq
    exact Or.inr ⟨rfl, rfl⟩
  · unfold X12_isBack
    show sOk 12 cX12_isBack 1 2 true 0 [(0, vr 13 0)] [] μ _
    refine sBk (lo' := [(0, vr 13 0)]) (st' := [vi 0, vi 0, vi 107, vi 99, vi 97, vi 98, vr 13 0]) (μ' := μ) (pc' := 11) [(.aload_n 0, 0, 0, 0, 0), (.bipush 98, 0, 0, 98, 0), (.bipush 97, 0, 0, 97, 0), (.bipush 99, 0, 0, 99, 0), (.bipush 107, 0, 0, 107, 0), (.iconst 0, 0, 0, 0, 0), (.iconst 0, 0, 0, 0, 0)] (by decide +kernel) rfl rfl ?_
    refine sCsL oI rfl (avs := [vi 98, vi 97, vi 99, vi 107, vi 0, vi 0]) (rest := [vr 13 0]) (tX12_spelled 98 97 99 107 0 0 μ) (by decide) (by decide +kernel) lk_12_148 ys_X12_spelled rfl rfl (Nat.le_of_ble_eq_true rfl) (fun x1 μ2 => ?_)
    refine sCvI oI rfl (ci := 12) (q := (13, 0)) (avs := [vl x1]) (rest := []) (tX12_isWord x1 μ2) (by decide) (by decide +kernel) lk_12_152 yv_X12_isWord rfl (by decide) rfl rfl rfl (Nat.le_of_ble_eq_true rfl) (fun x3 μ4 => ?_)
    exact sCk oI rfl (fun h => sRi (by decide +kernel) (fun _ => h))
/-! ClockRiverModel.testWord -/
def X12_testWord (μ : sM) : Option (Int32 × sM) :=
  bL (X12_spelled 115 116 111 114 101 100 μ) fun x1 μ2 =>
    bI (X12_isWord x1 μ2) fun x3 μ4 =>
      if x3 = 0 then
        bL (X12_spelled 103 114 111 117 110 100 μ4) fun x5 μ6 =>
          bI (X12_isWord x5 μ6) fun x7 μ8 =>
            if x7 = 0 then
              bL (X12_spelled 114 97 105 110 105 110 μ8) fun x9 μ10 =>
                bI (X12_isWord ((x9 * 32) + 7) μ10) fun x11 μ12 =>
                  if x11 = 0 then
                    some ((-1), μ12)
                  else
                    some (2, μ12)
            else
              some (1, μ8)
      else
        some (0, μ4)
theorem tX12_testWord (μ : sM) : sMt yX12_testWord cX12_testWord 1 (some .int) 2 [vr 13 0] μ (oI (X12_testWord μ)) := by
  refine sMt_of (own := 12) (bl := false) (by decide +kernel) rfl (Nat.le_of_ble_eq_true rfl) (fun r ρ h => ?_) ?_
  · obtain ⟨q, -, hq⟩ := Option.map_eq_some_iff.mp h
    cases hq
    exact Or.inl rfl
  · unfold X12_testWord
    show sOk 12 cX12_testWord 1 2 false 0 [(0, vr 13 0)] [] μ _
    refine sBk (lo' := [(0, vr 13 0)]) (st' := [vi 100, vi 101, vi 114, vi 111, vi 116, vi 115, vr 13 0]) (μ' := μ) (pc' := 13) [(.aload_n 0, 0, 0, 0, 0), (.bipush 115, 0, 0, 115, 0), (.bipush 116, 0, 0, 116, 0), (.bipush 111, 0, 0, 111, 0), (.bipush 114, 0, 0, 114, 0), (.bipush 101, 0, 0, 101, 0), (.bipush 100, 0, 0, 100, 0)] (by decide +kernel) rfl rfl ?_
    refine sCsL oI rfl (avs := [vi 115, vi 116, vi 111, vi 114, vi 101, vi 100]) (rest := [vr 13 0]) (tX12_spelled 115 116 111 114 101 100 μ) (by decide) (by decide +kernel) lk_12_148 ys_X12_spelled rfl rfl (Nat.le_of_ble_eq_true rfl) (fun x1 μ2 => ?_)
    refine sCvI oI rfl (ci := 12) (q := (13, 0)) (avs := [vl x1]) (rest := []) (tX12_isWord x1 μ2) (by decide) (by decide +kernel) lk_12_152 yv_X12_isWord rfl (by decide) rfl rfl rfl (Nat.le_of_ble_eq_true rfl) (fun x3 μ4 => ?_)
    refine sIf_eq oI (off := 5) (tgt := 24) (by decide +kernel) (by decide) (fun _ => ?_) (fun _ => ?_)
    · refine sBk (lo' := [(0, vr 13 0)]) (st' := [vi 100, vi 110, vi 117, vi 111, vi 114, vi 103, vr 13 0]) (μ' := μ4) (pc' := 37) [(.aload_n 0, 0, 0, 0, 0), (.bipush 103, 0, 0, 103, 0), (.bipush 114, 0, 0, 114, 0), (.bipush 111, 0, 0, 111, 0), (.bipush 117, 0, 0, 117, 0), (.bipush 110, 0, 0, 110, 0), (.bipush 100, 0, 0, 100, 0)] (by decide +kernel) rfl rfl ?_
      refine sCsL oI rfl (avs := [vi 103, vi 114, vi 111, vi 117, vi 110, vi 100]) (rest := [vr 13 0]) (tX12_spelled 103 114 111 117 110 100 μ4) (by decide) (by decide +kernel) lk_12_148 ys_X12_spelled rfl rfl (Nat.le_of_ble_eq_true rfl) (fun x5 μ6 => ?_)
      refine sCvI oI rfl (ci := 12) (q := (13, 0)) (avs := [vl x5]) (rest := []) (tX12_isWord x5 μ6) (by decide) (by decide +kernel) lk_12_152 yv_X12_isWord rfl (by decide) rfl rfl rfl (Nat.le_of_ble_eq_true rfl) (fun x7 μ8 => ?_)
      refine sIf_eq oI (off := 5) (tgt := 48) (by decide +kernel) (by decide) (fun _ => ?_) (fun _ => ?_)
      · refine sBk (lo' := [(0, vr 13 0)]) (st' := [vi 110, vi 105, vi 110, vi 105, vi 97, vi 114, vr 13 0]) (μ' := μ8) (pc' := 61) [(.aload_n 0, 0, 0, 0, 0), (.bipush 114, 0, 0, 114, 0), (.bipush 97, 0, 0, 97, 0), (.bipush 105, 0, 0, 105, 0), (.bipush 110, 0, 0, 110, 0), (.bipush 105, 0, 0, 105, 0), (.bipush 110, 0, 0, 110, 0)] (by decide +kernel) rfl rfl ?_
        refine sCsL oI rfl (avs := [vi 114, vi 97, vi 105, vi 110, vi 105, vi 110]) (rest := [vr 13 0]) (tX12_spelled 114 97 105 110 105 110 μ8) (by decide) (by decide +kernel) lk_12_148 ys_X12_spelled rfl rfl (Nat.le_of_ble_eq_true rfl) (fun x9 μ10 => ?_)
        refine sBk (lo' := [(0, vr 13 0)]) (st' := [vl ((x9 * 32) + 7), vr 13 0]) (μ' := μ10) (pc' := 72) [(.ldc2_w 132, 0, 0, 0, 32), (.lmul, 0, 0, 0, 0), (.ldc2_w 164, 0, 0, 0, 7), (.ladd, 0, 0, 0, 0)] (by decide +kernel) rfl rfl ?_
        refine sCvI oI rfl (ci := 12) (q := (13, 0)) (avs := [vl ((x9 * 32) + 7)]) (rest := []) (tX12_isWord ((x9 * 32) + 7) μ10) (by decide) (by decide +kernel) lk_12_152 yv_X12_isWord rfl (by decide) rfl rfl rfl (Nat.le_of_ble_eq_true rfl) (fun x11 μ12 => ?_)
        refine sIf_eq oI (off := 7) (tgt := 82) (by decide +kernel) (by decide) (fun _ => ?_) (fun _ => ?_)
        · refine sBk (lo' := [(0, vr 13 0)]) (st' := [vi (-1)]) (μ' := μ12) (pc' := 83) [(.iconst (-1), 0, 0, (-1), 0)] (by decide +kernel) rfl rfl ?_
          exact sRi (by decide +kernel) (fun h => by cases h)
        · refine sBk (lo' := [(0, vr 13 0)]) (st' := [vi 2]) (μ' := μ12) (pc' := 79) [(.iconst 2, 0, 0, 2, 0)] (by decide +kernel) rfl rfl ?_
          refine sGt (off := 4) (tgt := 83) (by decide +kernel) (by decide) ?_
          exact sRi (by decide +kernel) (fun h => by cases h)
      · refine sBk (lo' := [(0, vr 13 0)]) (st' := [vi 1]) (μ' := μ8) (pc' := 47) [(.iconst 1, 0, 0, 1, 0)] (by decide +kernel) rfl rfl ?_
        exact sRi (by decide +kernel) (fun h => by cases h)
    · refine sBk (lo' := [(0, vr 13 0)]) (st' := [vi 0]) (μ' := μ4) (pc' := 23) [(.iconst 0, 0, 0, 0, 0)] (by decide +kernel) rfl rfl ?_
      exact sRi (by decide +kernel) (fun h => by cases h)
/-! ClockRiverModel.isEnd -/
def X12_isEnd (μ : sM) : Option (Int32 × sM) :=
  bL (X12_spelled 101 110 100 0 0 0 μ) fun x1 μ2 =>
    bI (X12_isWord x1 μ2) fun x3 μ4 =>
      if x3 = 0 ∨ x3 = 1 then some (x3, μ4) else none
theorem tX12_isEnd (μ : sM) : sMt yX12_isEnd cX12_isEnd 1 (some .boolean) 2 [vr 13 0] μ (oI (X12_isEnd μ)) := by
  refine sMt_of (own := 12) (bl := true) (by decide +kernel) rfl (Nat.le_of_ble_eq_true rfl) (fun r ρ h => ?_) ?_
  · obtain ⟨q, -, hq⟩ := Option.map_eq_some_iff.mp h
    cases hq
    exact Or.inr ⟨rfl, rfl⟩
  · unfold X12_isEnd
    show sOk 12 cX12_isEnd 1 2 true 0 [(0, vr 13 0)] [] μ _
    refine sBk (lo' := [(0, vr 13 0)]) (st' := [vi 0, vi 0, vi 0, vi 100, vi 110, vi 101, vr 13 0]) (μ' := μ) (pc' := 10) [(.aload_n 0, 0, 0, 0, 0), (.bipush 101, 0, 0, 101, 0), (.bipush 110, 0, 0, 110, 0), (.bipush 100, 0, 0, 100, 0), (.iconst 0, 0, 0, 0, 0), (.iconst 0, 0, 0, 0, 0), (.iconst 0, 0, 0, 0, 0)] (by decide +kernel) rfl rfl ?_
    refine sCsL oI rfl (avs := [vi 101, vi 110, vi 100, vi 0, vi 0, vi 0]) (rest := [vr 13 0]) (tX12_spelled 101 110 100 0 0 0 μ) (by decide) (by decide +kernel) lk_12_148 ys_X12_spelled rfl rfl (Nat.le_of_ble_eq_true rfl) (fun x1 μ2 => ?_)
    refine sCvI oI rfl (ci := 12) (q := (13, 0)) (avs := [vl x1]) (rest := []) (tX12_isWord x1 μ2) (by decide) (by decide +kernel) lk_12_152 yv_X12_isWord rfl (by decide) rfl rfl rfl (Nat.le_of_ble_eq_true rfl) (fun x3 μ4 => ?_)
    exact sCk oI rfl (fun h => sRi (by decide +kernel) (fun _ => h))
