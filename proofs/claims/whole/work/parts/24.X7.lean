theorem lk_7_23 : Cond.methodLink (kRn 7) 23 yX7_isTray ∈ sT := sT_in (n := 705) (by decide +kernel) rfl
theorem lk_7_27 : Cond.methodLink (kRn 7) 27 yX7_isMissing ∈ sT := sT_in (n := 706) (by decide +kernel) rfl
theorem lk_7_30 : Cond.methodLink (kRn 7) 30 yX7_cut ∈ sT := sT_in (n := 714) (by decide +kernel) rfl
theorem ys_X7_cut : yS yX7_cut cX7_cut 3 (some .long) 2 := ⟨⟨sT_in (n := 716) (by decide +kernel) rfl, sT_in (n := 143) (by decide +kernel) rfl, by decide +kernel, by decide⟩, sT_in (n := 715) (by decide +kernel) rfl⟩
theorem ys_X7_isTray : yS yX7_isTray cX7_isTray 1 (some .boolean) 1 := ⟨⟨sT_in (n := 684) (by decide +kernel) rfl, sT_in (n := 143) (by decide +kernel) rfl, by decide +kernel, by decide⟩, sT_in (n := 683) (by decide +kernel) rfl⟩
theorem yv_X7_isMissing : yV yX7_isMissing cX7_isMissing 2 (some .boolean) 1 := ⟨⟨sT_in (n := 709) (by decide +kernel) rfl, sT_in (n := 143) (by decide +kernel) rfl, by decide +kernel, by decide⟩, sT_in (n := 707) (by decide +kernel) rfl, sT_in (n := 708) (by decide +kernel) rfl⟩
/-! ClockRiver$Trays.isTray -/
def X7_isTray (a0 : Int32) (μ : sM) : Option (Int32 × sM) :=
  if a0 < 0 then
    some (0, μ)
  else
    if 4 ≤ a0 then
      some (0, μ)
    else
      some (1, μ)
theorem tX7_isTray (a0 : Int32) (μ : sM) : sMt yX7_isTray cX7_isTray 1 (some .boolean) 1 [vi a0] μ (oI (X7_isTray a0 μ)) := by
  refine sMt_of (own := 7) (bl := true) (by decide +kernel) rfl (Nat.le_of_ble_eq_true rfl) (fun r ρ h => ?_) ?_
  · obtain ⟨q, -, hq⟩ := Option.map_eq_some_iff.mp h
    cases hq
    exact Or.inr ⟨rfl, rfl⟩
  · unfold X7_isTray
    show sOk 7 cX7_isTray 1 1 true 0 [(0, vi a0)] [] μ _
    refine sBk (lo' := [(0, vi a0)]) (st' := [vi a0]) (μ' := μ) (pc' := 1) [(.iload_n 0, 0, 0, 0, 0)] (by decide +kernel) rfl rfl ?_
    refine sIf_lt oI (off := 12) (tgt := 13) (by decide +kernel) (by decide) (fun _ => ?_) (fun _ => ?_)
    · refine sBk (lo' := [(0, vi a0)]) (st' := [vi 0]) (μ' := μ) (pc' := 14) [(.iconst 0, 0, 0, 0, 0)] (by decide +kernel) rfl rfl ?_
      exact sRi (by decide +kernel) (fun _ => Or.inl rfl)
    · refine sBk (lo' := [(0, vi a0)]) (st' := [vi 4, vi a0]) (μ' := μ) (pc' := 6) [(.iload_n 0, 0, 0, 0, 0), (.iconst 4, 0, 0, 4, 0)] (by decide +kernel) rfl rfl ?_
      refine sIc_ge oI (off := 7) (tgt := 13) (by decide +kernel) (by decide) (fun _ => ?_) (fun _ => ?_)
      · refine sBk (lo' := [(0, vi a0)]) (st' := [vi 0]) (μ' := μ) (pc' := 14) [(.iconst 0, 0, 0, 0, 0)] (by decide +kernel) rfl rfl ?_
        exact sRi (by decide +kernel) (fun _ => Or.inl rfl)
      · refine sBk (lo' := [(0, vi a0)]) (st' := [vi 1]) (μ' := μ) (pc' := 10) [(.iconst 1, 0, 0, 1, 0)] (by decide +kernel) rfl rfl ?_
        refine sGt (off := 4) (tgt := 14) (by decide +kernel) (by decide) ?_
        exact sRi (by decide +kernel) (fun _ => Or.inr rfl)
/-! ClockRiver$Trays.renew -/
def X7_renew_L17 : Nat → Int32 → Int32 → Int32 → sM → Option sM
  | 0, _, _, _, _ => none
  | n + 1, v1, v3, v4, μ =>
    if v3 ≤ v4 then
      some μ
    else
      if inb v1 4 = true then
        if inb v4 60 = true then
          X7_renew_L17 n v1 v3 (v4 + 1) (wL μ 40 (0 + (ix v1)) (ix v4) 0)
        else none
      else none
theorem X7_renew_L17_ok : ∀ (n : Nat) (v1 : Int32) (v3 : Int32) (v4 : Int32) (μ : sM), sOk 7 cX7_renew 5 1 false 17 [(0, vr 8 0), (1, vi v1), (3, vi v3), (4, vi v4)] [] μ (oV (X7_renew_L17 n v1 v3 v4 μ)) := by
  intro n
  induction n with
  | zero =>
    intros
    exact sNo
  | succ n ih =>
    intro v1 v3 v4 μ
    unfold X7_renew_L17
    refine sBk (lo' := [(0, vr 8 0), (1, vi v1), (3, vi v3), (4, vi v4)]) (st' := [vi v3, vi v4]) (μ' := μ) (pc' := 20) [(.iload 4, 0, 0, 0, 0), (.iload_n 3, 0, 0, 0, 0)] (by decide +kernel) rfl rfl ?_
    refine sIc_ge oV (off := 19) (tgt := 39) (by decide +kernel) (by decide) (fun _ => ?_) (fun _ => ?_)
    · exact sRv (by decide +kernel)
    · refine sBk (lo' := [(0, vr 8 0), (1, vi v1), (3, vi v3), (4, vi v4)]) (st' := [vi v1, vr 39 0]) (μ' := μ) (pc' := 28) [(.aload_n 0, 0, 0, 0, 0), (.getfield 11, 7, 0, 0, 0), (.iload_n 1, 0, 0, 0, 0)] (by decide +kernel) rfl rfl ?_
      refine sS_aal oV rfl (n := 4) (j := (ix v1)) (by decide +kernel) rfl rfl rfl (fun _ => ?_)
      refine sBk (lo' := [(0, vr 8 0), (1, vi v1), (3, vi v3), (4, vi v4)]) (st' := [vl 0, vi v4, vr 40 (0 + (ix v1))]) (μ' := μ) (pc' := 32) [(.iload 4, 0, 0, 0, 0), (.lconst 0, 0, 0, 0, 0)] (by decide +kernel) rfl rfl ?_
      refine sS_las oV rfl (n := 60) (j := (ix v4)) (by decide +kernel) rfl rfl rfl (fun _ => ?_)
      refine sBk (lo' := [(4, vi (v4 + 1)), (0, vr 8 0), (1, vi v1), (3, vi v3)]) (st' := []) (μ' := wL μ 40 (0 + (ix v1)) (ix v4) 0) (pc' := 36) [(.iinc 4 1, 0, 0, 1, 0)] (by decide +kernel) rfl rfl ?_
      refine sGt (off := (-19)) (tgt := 17) (by decide +kernel) (by decide) ?_
      refine sWk (lo' := [(0, vr 8 0), (1, vi v1), (3, vi v3), (4, vi (v4 + 1))]) [1, 2, 3, 0] rfl ?_
      exact ih v1 v3 (v4 + 1) (wL μ 40 (0 + (ix v1)) (ix v4) 0)
def X7_renew (a1 : Int32) (a2 : Int32) (a3 : Int32) (μ : sM) : Option sM :=
  if inb a1 4 = true then
    if inb a1 4 = true then
      X7_renew_L17 fuN a1 a3 0 (wI (wI μ 41 0 (ix a1) a2) 42 0 (ix a1) a3)
    else none
  else none
theorem tX7_renew (a1 : Int32) (a2 : Int32) (a3 : Int32) (μ : sM) : sMt yX7_renew cX7_renew 5 none 1 [vr 8 0, vi a1, vi a2, vi a3] μ (oV (X7_renew a1 a2 a3 μ)) := by
  refine sMt_of (own := 7) (bl := false) (by decide +kernel) rfl (Nat.le_of_ble_eq_true rfl) (fun r ρ h => ?_) ?_
  · obtain ⟨q, -, hq⟩ := Option.map_eq_some_iff.mp h
    cases hq
    exact rfl
  · unfold X7_renew
    show sOk 7 cX7_renew 5 1 false 0 [(0, vr 8 0), (1, vi a1), (2, vi a2), (3, vi a3)] [] μ _
    refine sBk (lo' := [(0, vr 8 0), (1, vi a1), (2, vi a2), (3, vi a3)]) (st' := [vi a2, vi a1, vr 41 0]) (μ' := μ) (pc' := 6) [(.aload_n 0, 0, 0, 0, 0), (.getfield 16, 7, 1, 0, 0), (.iload_n 1, 0, 0, 0, 0), (.iload_n 2, 0, 0, 0, 0)] (by decide +kernel) rfl rfl ?_
    refine sS_ias oV rfl (n := 4) (j := (ix a1)) (by decide +kernel) rfl rfl rfl (fun _ => ?_)
    refine sBk (lo' := [(0, vr 8 0), (1, vi a1), (2, vi a2), (3, vi a3)]) (st' := [vi a3, vi a1, vr 42 0]) (μ' := wI μ 41 0 (ix a1) a2) (pc' := 13) [(.aload_n 0, 0, 0, 0, 0), (.getfield 20, 7, 2, 0, 0), (.iload_n 1, 0, 0, 0, 0), (.iload_n 3, 0, 0, 0, 0)] (by decide +kernel) rfl rfl ?_
    refine sS_ias oV rfl (n := 4) (j := (ix a1)) (by decide +kernel) rfl rfl rfl (fun _ => ?_)
    refine sBk (lo' := [(4, vi 0), (0, vr 8 0), (1, vi a1), (2, vi a2), (3, vi a3)]) (st' := []) (μ' := wI (wI μ 41 0 (ix a1) a2) 42 0 (ix a1) a3) (pc' := 17) [(.iconst 0, 0, 0, 0, 0), (.istore 4, 0, 0, 0, 0)] (by decide +kernel) rfl rfl ?_
    refine sWk (lo' := [(0, vr 8 0), (1, vi a1), (3, vi a3), (4, vi 0)]) [1, 2, 4, 0] rfl ?_
    exact X7_renew_L17_ok fuN a1 a3 0 (wI (wI μ 41 0 (ix a1) a2) 42 0 (ix a1) a3)
/-! ClockRiver$Trays.isMissing -/
def X7_isMissing (a1 : Int32) (μ : sM) : Option (Int32 × sM) :=
  if inb a1 4 = true then
    if (rI μ 42 0 (ix a1)) = (-1) then
      some (1, μ)
    else
      some (0, μ)
  else none
theorem tX7_isMissing (a1 : Int32) (μ : sM) : sMt yX7_isMissing cX7_isMissing 2 (some .boolean) 1 [vr 8 0, vi a1] μ (oI (X7_isMissing a1 μ)) := by
  refine sMt_of (own := 7) (bl := true) (by decide +kernel) rfl (Nat.le_of_ble_eq_true rfl) (fun r ρ h => ?_) ?_
  · obtain ⟨q, -, hq⟩ := Option.map_eq_some_iff.mp h
    cases hq
    exact Or.inr ⟨rfl, rfl⟩
  · unfold X7_isMissing
    show sOk 7 cX7_isMissing 2 1 true 0 [(0, vr 8 0), (1, vi a1)] [] μ _
    refine sBk (lo' := [(0, vr 8 0), (1, vi a1)]) (st' := [vi a1, vr 42 0]) (μ' := μ) (pc' := 5) [(.aload_n 0, 0, 0, 0, 0), (.getfield 20, 7, 2, 0, 0), (.iload_n 1, 0, 0, 0, 0)] (by decide +kernel) rfl rfl ?_
    refine sS_ial oI rfl (n := 4) (j := (ix a1)) (by decide +kernel) rfl rfl rfl (fun _ => ?_)
    refine sBk (lo' := [(0, vr 8 0), (1, vi a1)]) (st' := [vi (-1), vi (rI μ 42 0 (ix a1))]) (μ' := μ) (pc' := 7) [(.iconst (-1), 0, 0, (-1), 0)] (by decide +kernel) rfl rfl ?_
    refine sIc_ne oI (off := 7) (tgt := 14) (by decide +kernel) (by decide) (fun _ => ?_) (fun _ => ?_)
    · refine sBk (lo' := [(0, vr 8 0), (1, vi a1)]) (st' := [vi 0]) (μ' := μ) (pc' := 15) [(.iconst 0, 0, 0, 0, 0)] (by decide +kernel) rfl rfl ?_
      exact sRi (by decide +kernel) (fun _ => Or.inl rfl)
    · refine sBk (lo' := [(0, vr 8 0), (1, vi a1)]) (st' := [vi 1]) (μ' := μ) (pc' := 11) [(.iconst 1, 0, 0, 1, 0)] (by decide +kernel) rfl rfl ?_
      refine sGt (off := 4) (tgt := 15) (by decide +kernel) (by decide) ?_
      exact sRi (by decide +kernel) (fun _ => Or.inr rfl)
/-! ClockRiver$Trays.whyNoPlace -/
def X7_whyNoPlace (a1 : Int32) (a2 : Int32) (μ : sM) : Option (Int32 × sM) :=
  bI (X7_isTray a1 μ) fun x1 μ2 =>
    if x1 = 0 then
      some (1, μ2)
    else
      bI (X7_isMissing a1 μ2) fun x3 μ4 =>
        if x3 = 0 then
          if a2 < 0 then
            some (4, μ4)
          else
            if inb a1 4 = true then
              if a2 < (rI μ4 42 0 (ix a1)) then
                some (0, μ4)
              else
                some (4, μ4)
            else none
        else
          some (3, μ4)
theorem tX7_whyNoPlace (a1 : Int32) (a2 : Int32) (μ : sM) : sMt yX7_whyNoPlace cX7_whyNoPlace 3 (some .int) 2 [vr 8 0, vi a1, vi a2] μ (oI (X7_whyNoPlace a1 a2 μ)) := by
  refine sMt_of (own := 7) (bl := false) (by decide +kernel) rfl (Nat.le_of_ble_eq_true rfl) (fun r ρ h => ?_) ?_
  · obtain ⟨q, -, hq⟩ := Option.map_eq_some_iff.mp h
    cases hq
    exact Or.inl rfl
  · unfold X7_whyNoPlace
    show sOk 7 cX7_whyNoPlace 3 2 false 0 [(0, vr 8 0), (1, vi a1), (2, vi a2)] [] μ _
    refine sBk (lo' := [(0, vr 8 0), (1, vi a1), (2, vi a2)]) (st' := [vi a1]) (μ' := μ) (pc' := 1) [(.iload_n 1, 0, 0, 0, 0)] (by decide +kernel) rfl rfl ?_
    refine sCsI oI rfl (avs := [vi a1]) (rest := []) (tX7_isTray a1 μ) (by decide) (by decide +kernel) lk_7_23 ys_X7_isTray rfl rfl (Nat.le_of_ble_eq_true rfl) (fun x1 μ2 => ?_)
    refine sIf_ne oI (off := 5) (tgt := 9) (by decide +kernel) (by decide) (fun _ => ?_) (fun _ => ?_)
    · refine sBk (lo' := [(0, vr 8 0), (1, vi a1), (2, vi a2)]) (st' := [vi a1, vr 8 0]) (μ' := μ2) (pc' := 11) [(.aload_n 0, 0, 0, 0, 0), (.iload_n 1, 0, 0, 0, 0)] (by decide +kernel) rfl rfl ?_
      refine sCvI oI rfl (ci := 7) (q := (8, 0)) (avs := [vi a1]) (rest := []) (tX7_isMissing a1 μ2) (by decide) (by decide +kernel) lk_7_27 yv_X7_isMissing rfl (by decide) rfl rfl rfl (Nat.le_of_ble_eq_true rfl) (fun x3 μ4 => ?_)
      refine sIf_eq oI (off := 5) (tgt := 19) (by decide +kernel) (by decide) (fun _ => ?_) (fun _ => ?_)
      · refine sBk (lo' := [(0, vr 8 0), (1, vi a1), (2, vi a2)]) (st' := [vi a2]) (μ' := μ4) (pc' := 20) [(.iload_n 2, 0, 0, 0, 0)] (by decide +kernel) rfl rfl ?_
        refine sIf_lt oI (off := 13) (tgt := 33) (by decide +kernel) (by decide) (fun _ => ?_) (fun _ => ?_)
        · refine sBk (lo' := [(0, vr 8 0), (1, vi a1), (2, vi a2)]) (st' := [vi 4]) (μ' := μ4) (pc' := 34) [(.iconst 4, 0, 0, 4, 0)] (by decide +kernel) rfl rfl ?_
          refine sGt (off := 4) (tgt := 38) (by decide +kernel) (by decide) ?_
          exact sRi (by decide +kernel) (fun h => by cases h)
        · refine sBk (lo' := [(0, vr 8 0), (1, vi a1), (2, vi a2)]) (st' := [vi a1, vr 42 0, vi a2]) (μ' := μ4) (pc' := 29) [(.iload_n 2, 0, 0, 0, 0), (.aload_n 0, 0, 0, 0, 0), (.getfield 20, 7, 2, 0, 0), (.iload_n 1, 0, 0, 0, 0)] (by decide +kernel) rfl rfl ?_
          refine sS_ial oI rfl (n := 4) (j := (ix a1)) (by decide +kernel) rfl rfl rfl (fun _ => ?_)
          refine sIc_lt oI (off := 7) (tgt := 37) (by decide +kernel) (by decide) (fun _ => ?_) (fun _ => ?_)
          · refine sBk (lo' := [(0, vr 8 0), (1, vi a1), (2, vi a2)]) (st' := [vi 0]) (μ' := μ4) (pc' := 38) [(.iconst 0, 0, 0, 0, 0)] (by decide +kernel) rfl rfl ?_
            exact sRi (by decide +kernel) (fun h => by cases h)
          · refine sBk (lo' := [(0, vr 8 0), (1, vi a1), (2, vi a2)]) (st' := [vi 4]) (μ' := μ4) (pc' := 34) [(.iconst 4, 0, 0, 4, 0)] (by decide +kernel) rfl rfl ?_
            refine sGt (off := 4) (tgt := 38) (by decide +kernel) (by decide) ?_
            exact sRi (by decide +kernel) (fun h => by cases h)
      · refine sBk (lo' := [(0, vr 8 0), (1, vi a1), (2, vi a2)]) (st' := [vi 3]) (μ' := μ4) (pc' := 18) [(.iconst 3, 0, 0, 3, 0)] (by decide +kernel) rfl rfl ?_
        exact sRi (by decide +kernel) (fun h => by cases h)
    · refine sBk (lo' := [(0, vr 8 0), (1, vi a1), (2, vi a2)]) (st' := [vi 1]) (μ' := μ2) (pc' := 8) [(.iconst 1, 0, 0, 1, 0)] (by decide +kernel) rfl rfl ?_
      exact sRi (by decide +kernel) (fun h => by cases h)
/-! ClockRiver$Trays.cut -/
def X7_cut (a0 : Int32) (a1 : Int64) (μ : sM) : Option (Int64 × sM) :=
  if a0 = 0 then
    some ((Int32.toInt64 (Int8.toInt32 (Int32.toInt8 (Int64.toInt32 a1)))), μ)
  else if a0 = 1 then
    some ((Int32.toInt64 (Int16.toInt32 (Int32.toInt16 (Int64.toInt32 a1)))), μ)
  else if a0 = 2 then
    some ((Int32.toInt64 (Int64.toInt32 a1)), μ)
  else
    some (a1, μ)
theorem tX7_cut (a0 : Int32) (a1 : Int64) (μ : sM) : sMt yX7_cut cX7_cut 3 (some .long) 1 [vi a0, vl a1] μ (oL (X7_cut a0 a1 μ)) := by
  refine sMt_of (own := 7) (bl := false) (by decide +kernel) rfl (Nat.le_of_ble_eq_true rfl) (fun r ρ h => ?_) ?_
  · obtain ⟨q, -, hq⟩ := Option.map_eq_some_iff.mp h
    cases hq
    exact rfl
  · unfold X7_cut
    show sOk 7 cX7_cut 3 1 false 0 [(0, vi a0), (1, vl a1)] [] μ _
    refine sBk (lo' := [(0, vi a0), (1, vl a1)]) (st' := [vi a0]) (μ' := μ) (pc' := 1) [(.iload_n 0, 0, 0, 0, 0)] (by decide +kernel) rfl rfl ?_
    refine sTs (ps := [(0, 28), (1, 33), (2, 38)]) (df := 42) (by decide +kernel) ?_
    refine sSc oL (fun _ => ?_) (fun _ => ?_)
    · refine sBk (lo' := [(0, vi a0), (1, vl a1)]) (st' := [vl (Int32.toInt64 (Int8.toInt32 (Int32.toInt8 (Int64.toInt32 a1))))]) (μ' := μ) (pc' := 32) [(.lload_n 1, 0, 0, 0, 0), (.l2i, 0, 0, 0, 0), (.i2b, 0, 0, 0, 0), (.i2l, 0, 0, 0, 0)] (by decide +kernel) rfl rfl ?_
      exact sRl (by decide +kernel)
    refine sSc oL (fun _ => ?_) (fun _ => ?_)
    · refine sBk (lo' := [(0, vi a0), (1, vl a1)]) (st' := [vl (Int32.toInt64 (Int16.toInt32 (Int32.toInt16 (Int64.toInt32 a1))))]) (μ' := μ) (pc' := 37) [(.lload_n 1, 0, 0, 0, 0), (.l2i, 0, 0, 0, 0), (.i2s, 0, 0, 0, 0), (.i2l, 0, 0, 0, 0)] (by decide +kernel) rfl rfl ?_
      exact sRl (by decide +kernel)
    refine sSc oL (fun _ => ?_) (fun _ => ?_)
    · refine sBk (lo' := [(0, vi a0), (1, vl a1)]) (st' := [vl (Int32.toInt64 (Int64.toInt32 a1))]) (μ' := μ) (pc' := 41) [(.lload_n 1, 0, 0, 0, 0), (.l2i, 0, 0, 0, 0), (.i2l, 0, 0, 0, 0)] (by decide +kernel) rfl rfl ?_
      exact sRl (by decide +kernel)
    refine sSd ?_
    refine sBk (lo' := [(0, vi a0), (1, vl a1)]) (st' := [vl a1]) (μ' := μ) (pc' := 43) [(.lload_n 1, 0, 0, 0, 0)] (by decide +kernel) rfl rfl ?_
    exact sRl (by decide +kernel)
/-! ClockRiver$Trays.put -/
def X7_put (a1 : Int32) (a2 : Int32) (a3 : Int64) (μ : sM) : Option sM :=
  if inb a1 4 = true then
    if inb a1 4 = true then
      bL (X7_cut (rI μ 41 0 (ix a1)) a3 μ) fun x1 μ2 =>
        if inb a2 60 = true then
          some (wL μ2 40 (0 + (ix a1)) (ix a2) x1)
        else none
    else none
  else none
theorem tX7_put (a1 : Int32) (a2 : Int32) (a3 : Int64) (μ : sM) : sMt yX7_put cX7_put 5 none 2 [vr 8 0, vi a1, vi a2, vl a3] μ (oV (X7_put a1 a2 a3 μ)) := by
  refine sMt_of (own := 7) (bl := false) (by decide +kernel) rfl (Nat.le_of_ble_eq_true rfl) (fun r ρ h => ?_) ?_
  · obtain ⟨q, -, hq⟩ := Option.map_eq_some_iff.mp h
    cases hq
    exact rfl
  · unfold X7_put
    show sOk 7 cX7_put 5 2 false 0 [(0, vr 8 0), (1, vi a1), (2, vi a2), (3, vl a3)] [] μ _
    refine sBk (lo' := [(0, vr 8 0), (1, vi a1), (2, vi a2), (3, vl a3)]) (st' := [vi a1, vr 39 0]) (μ' := μ) (pc' := 5) [(.aload_n 0, 0, 0, 0, 0), (.getfield 11, 7, 0, 0, 0), (.iload_n 1, 0, 0, 0, 0)] (by decide +kernel) rfl rfl ?_
    refine sS_aal oV rfl (n := 4) (j := (ix a1)) (by decide +kernel) rfl rfl rfl (fun _ => ?_)
    refine sBk (lo' := [(0, vr 8 0), (1, vi a1), (2, vi a2), (3, vl a3)]) (st' := [vi a1, vr 41 0, vi a2, vr 40 (0 + (ix a1))]) (μ' := μ) (pc' := 12) [(.iload_n 2, 0, 0, 0, 0), (.aload_n 0, 0, 0, 0, 0), (.getfield 16, 7, 1, 0, 0), (.iload_n 1, 0, 0, 0, 0)] (by decide +kernel) rfl rfl ?_
    refine sS_ial oV rfl (n := 4) (j := (ix a1)) (by decide +kernel) rfl rfl rfl (fun _ => ?_)
    refine sBk (lo' := [(0, vr 8 0), (1, vi a1), (2, vi a2), (3, vl a3)]) (st' := [vl a3, vi (rI μ 41 0 (ix a1)), vi a2, vr 40 (0 + (ix a1))]) (μ' := μ) (pc' := 14) [(.lload_n 3, 0, 0, 0, 0)] (by decide +kernel) rfl rfl ?_
    refine sCsL oV rfl (avs := [vi (rI μ 41 0 (ix a1)), vl a3]) (rest := [vi a2, vr 40 (0 + (ix a1))]) (tX7_cut (rI μ 41 0 (ix a1)) a3 μ) (by decide) (by decide +kernel) lk_7_30 ys_X7_cut rfl rfl (Nat.le_of_ble_eq_true rfl) (fun x1 μ2 => ?_)
    refine sS_las oV rfl (n := 60) (j := (ix a2)) (by decide +kernel) rfl rfl rfl (fun _ => ?_)
    exact sRv (by decide +kernel)
/-! ClockRiver$Trays.hasRoom -/
def X7_hasRoom (a1 : Int32) (a2 : Int32) (a3 : Int32) (μ : sM) : Option (Int32 × sM) :=
  if a2 < 0 then
    some (0, μ)
  else
    if inb a1 4 = true then
      if 0 < (lg_cmp ((Int32.toInt64 a2) + (Int32.toInt64 a3)) (Int32.toInt64 (rI μ 42 0 (ix a1)))) then
        some (0, μ)
      else
        some (1, μ)
    else none
theorem tX7_hasRoom (a1 : Int32) (a2 : Int32) (a3 : Int32) (μ : sM) : sMt yX7_hasRoom cX7_hasRoom 4 (some .boolean) 1 [vr 8 0, vi a1, vi a2, vi a3] μ (oI (X7_hasRoom a1 a2 a3 μ)) := by
  refine sMt_of (own := 7) (bl := true) (by decide +kernel) rfl (Nat.le_of_ble_eq_true rfl) (fun r ρ h => ?_) ?_
  · obtain ⟨q, -, hq⟩ := Option.map_eq_some_iff.mp h
    cases hq
    exact Or.inr ⟨rfl, rfl⟩
  · unfold X7_hasRoom
    show sOk 7 cX7_hasRoom 4 1 true 0 [(0, vr 8 0), (1, vi a1), (2, vi a2), (3, vi a3)] [] μ _
    refine sBk (lo' := [(0, vr 8 0), (1, vi a1), (2, vi a2), (3, vi a3)]) (st' := [vi a2]) (μ' := μ) (pc' := 1) [(.iload_n 2, 0, 0, 0, 0)] (by decide +kernel) rfl rfl ?_
    refine sIf_lt oI (off := 23) (tgt := 24) (by decide +kernel) (by decide) (fun _ => ?_) (fun _ => ?_)
    · refine sBk (lo' := [(0, vr 8 0), (1, vi a1), (2, vi a2), (3, vi a3)]) (st' := [vi 0]) (μ' := μ) (pc' := 25) [(.iconst 0, 0, 0, 0, 0)] (by decide +kernel) rfl rfl ?_
      exact sRi (by decide +kernel) (fun _ => Or.inl rfl)
    · refine sBk (lo' := [(0, vr 8 0), (1, vi a1), (2, vi a2), (3, vi a3)]) (st' := [vi a1, vr 42 0, vl ((Int32.toInt64 a2) + (Int32.toInt64 a3))]) (μ' := μ) (pc' := 14) [(.iload_n 2, 0, 0, 0, 0), (.i2l, 0, 0, 0, 0), (.iload_n 3, 0, 0, 0, 0), (.i2l, 0, 0, 0, 0), (.ladd, 0, 0, 0, 0), (.aload_n 0, 0, 0, 0, 0), (.getfield 20, 7, 2, 0, 0), (.iload_n 1, 0, 0, 0, 0)] (by decide +kernel) rfl rfl ?_
      refine sS_ial oI rfl (n := 4) (j := (ix a1)) (by decide +kernel) rfl rfl rfl (fun _ => ?_)
      refine sBk (lo' := [(0, vr 8 0), (1, vi a1), (2, vi a2), (3, vi a3)]) (st' := [vi (lg_cmp ((Int32.toInt64 a2) + (Int32.toInt64 a3)) (Int32.toInt64 (rI μ 42 0 (ix a1))))]) (μ' := μ) (pc' := 17) [(.i2l, 0, 0, 0, 0), (.lcmp, 0, 0, 0, 0)] (by decide +kernel) rfl rfl ?_
      refine sIf_gt oI (off := 7) (tgt := 24) (by decide +kernel) (by decide) (fun _ => ?_) (fun _ => ?_)
      · refine sBk (lo' := [(0, vr 8 0), (1, vi a1), (2, vi a2), (3, vi a3)]) (st' := [vi 0]) (μ' := μ) (pc' := 25) [(.iconst 0, 0, 0, 0, 0)] (by decide +kernel) rfl rfl ?_
        exact sRi (by decide +kernel) (fun _ => Or.inl rfl)
      · refine sBk (lo' := [(0, vr 8 0), (1, vi a1), (2, vi a2), (3, vi a3)]) (st' := [vi 1]) (μ' := μ) (pc' := 21) [(.iconst 1, 0, 0, 1, 0)] (by decide +kernel) rfl rfl ?_
        refine sGt (off := 4) (tgt := 25) (by decide +kernel) (by decide) ?_
        exact sRi (by decide +kernel) (fun _ => Or.inr rfl)
