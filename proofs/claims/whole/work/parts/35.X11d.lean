theorem lk_11_373 : Cond.methodLink (kRn 11) 373 yX2_allGround ∈ sT := sT_in (n := 1342) (by decide +kernel) rfl
theorem lk_11_376 : Cond.methodLink (kRn 11) 376 yX11_tellFraction ∈ sT := sT_in (n := 1343) (by decide +kernel) rfl
theorem lk_11_382 : Cond.methodLink (kRn 11) 382 yX11_waysToRain ∈ sT := sT_in (n := 1362) (by decide +kernel) rfl
theorem lk_11_389 : Cond.methodLink (kRn 11) 389 yX1_run ∈ sT := sT_in (n := 1370) (by decide +kernel) rfl
theorem lk_11_397 : Cond.methodLink (kRn 11) 397 yX1_figure ∈ sT := sT_in (n := 1428) (by decide +kernel) rfl
theorem lk_11_398 : Cond.methodLink (kRn 11) 398 yX0_copyOf ∈ sT := sT_in (n := 1436) (by decide +kernel) rfl
theorem lk_11_405 : Cond.methodLink (kRn 11) 405 yX11_commonDivisor ∈ sT := sT_in (n := 1347) (by decide +kernel) rfl
theorem ys_X11_commonDivisor : yS yX11_commonDivisor cX11_commonDivisor 11 (some .long) 2 := ⟨⟨sT_in (n := 1349) (by decide +kernel) rfl, sT_in (n := 137) (by decide +kernel) rfl, by decide +kernel, by decide⟩, sT_in (n := 1348) (by decide +kernel) rfl⟩
theorem yv_X11_tellFraction : yV yX11_tellFraction cX11_tellFraction 7 none 2 := ⟨⟨sT_in (n := 1346) (by decide +kernel) rfl, sT_in (n := 137) (by decide +kernel) rfl, by decide +kernel, by decide⟩, sT_in (n := 1345) (by decide +kernel) rfl, sT_in (n := 32) (by decide +kernel) rfl⟩
theorem yv_X11_waysToRain : yV yX11_waysToRain cX11_waysToRain 6 (some .long) 2 := ⟨⟨sT_in (n := 1365) (by decide +kernel) rfl, sT_in (n := 137) (by decide +kernel) rfl, by decide +kernel, by decide⟩, sT_in (n := 1364) (by decide +kernel) rfl, sT_in (n := 33) (by decide +kernel) rfl⟩
theorem yv_X1_figure : yV yX1_figure cX1_figure 2 (some .int) 1 := ⟨⟨sT_in (n := 1431) (by decide +kernel) rfl, sT_in (n := 148) (by decide +kernel) rfl, by decide +kernel, by decide⟩, sT_in (n := 1429) (by decide +kernel) rfl, sT_in (n := 1430) (by decide +kernel) rfl⟩
theorem yv_X1_run : yV yX1_run cX1_run 6 none 3 := ⟨⟨sT_in (n := 1373) (by decide +kernel) rfl, sT_in (n := 148) (by decide +kernel) rfl, by decide +kernel, by decide⟩, sT_in (n := 1371) (by decide +kernel) rfl, sT_in (n := 1372) (by decide +kernel) rfl⟩
/-! ClockRiver.moveOf -/
def X11_moveOf_J22 (μ : sM) : Option (Int32 × sM) :=
  bI (X11_refuse 2 μ) fun x1 μ2 =>
    some (x1, μ2)
theorem X11_moveOf_J22_ok (μ : sM) : sOk 11 cX11_moveOf 4 10 false 22 [(0, vr 12 0)] [] μ (oI (X11_moveOf_J22 μ)) := by
  unfold X11_moveOf_J22
  refine sBk (lo' := [(0, vr 12 0)]) (st' := [vi 2, vr 12 0]) (μ' := μ) (pc' := 24) [(.aload_n 0, 0, 0, 0, 0), (.iconst 2, 0, 0, 2, 0)] (by decide +kernel) rfl rfl ?_
  refine sCvI oI rfl (ci := 11) (q := (12, 0)) (avs := [vi 2]) (rest := []) (tX11_refuse 2 μ) (by decide) (by decide +kernel) lk_11_110 yv_X11_refuse rfl (by decide) rfl rfl rfl (Nat.le_of_ble_eq_true rfl) (fun x1 μ2 => ?_)
  exact sRi (by decide +kernel) (fun h => by cases h)
def X11_moveOf_J43 (μ : sM) : Option (Int32 × sM) :=
  bI (X11_refuse 5 μ) fun x1 μ2 =>
    some (x1, μ2)
theorem X11_moveOf_J43_ok (μ : sM) : sOk 11 cX11_moveOf 4 10 false 43 [(0, vr 12 0)] [] μ (oI (X11_moveOf_J43 μ)) := by
  unfold X11_moveOf_J43
  refine sBk (lo' := [(0, vr 12 0)]) (st' := [vi 5, vr 12 0]) (μ' := μ) (pc' := 45) [(.aload_n 0, 0, 0, 0, 0), (.iconst 5, 0, 0, 5, 0)] (by decide +kernel) rfl rfl ?_
  refine sCvI oI rfl (ci := 11) (q := (12, 0)) (avs := [vi 5]) (rest := []) (tX11_refuse 5 μ) (by decide) (by decide +kernel) lk_11_110 yv_X11_refuse rfl (by decide) rfl rfl rfl (Nat.le_of_ble_eq_true rfl) (fun x1 μ2 => ?_)
  exact sRi (by decide +kernel) (fun h => by cases h)
def X11_moveOf (a1 : Int32) (a2 : Int32) (a3 : Int32) (μ : sM) : Option (Int32 × sM) :=
  bI (X4_hasMill 0 a1 μ) fun x1 μ2 =>
    if x1 = 0 then
      X11_moveOf_J22 μ2
    else
      bI (X4_hasMill 0 a2 μ2) fun x3 μ4 =>
        if x3 = 0 then
          X11_moveOf_J22 μ4
        else
          if a1 = a2 then
            X11_moveOf_J43 μ4
          else
            if a3 < 1 then
              X11_moveOf_J43 μ4
            else
              if a3 ≤ 4 then
                bI (X0_bestLead 0 a1 a2 a3 μ4) fun x5 μ6 =>
                  bI (X11_give (rI μ6 1 0 3) μ6) fun x7 μ8 =>
                    some (x7, μ8)
              else
                X11_moveOf_J43 μ4
theorem tX11_moveOf (a1 : Int32) (a2 : Int32) (a3 : Int32) (μ : sM) : sMt yX11_moveOf cX11_moveOf 4 (some .int) 10 [vr 12 0, vi a1, vi a2, vi a3] μ (oI (X11_moveOf a1 a2 a3 μ)) := by
  refine sMt_of (own := 11) (bl := false) (by decide +kernel) rfl (Nat.le_of_ble_eq_true rfl) (fun r ρ h => ?_) ?_
  · obtain ⟨q, -, hq⟩ := Option.map_eq_some_iff.mp h
    cases hq
    exact Or.inl rfl
  · unfold X11_moveOf
    show sOk 11 cX11_moveOf 4 10 false 0 [(0, vr 12 0), (1, vi a1), (2, vi a2), (3, vi a3)] [] μ _
    refine sBk (lo' := [(0, vr 12 0), (1, vi a1), (2, vi a2), (3, vi a3)]) (st' := [vi a1, vr 5 0]) (μ' := μ) (pc' := 5) [(.aload_n 0, 0, 0, 0, 0), (.getfield 16, 11, 4, 0, 0), (.iload_n 1, 0, 0, 0, 0)] (by decide +kernel) rfl rfl ?_
    refine sCvI oI rfl (ci := 4) (q := (5, 0)) (avs := [vi a1]) (rest := []) (tX4_hasMill 0 a1 μ) (by decide) (by decide +kernel) lk_11_226 yv_X4_hasMill rfl (by decide) rfl rfl rfl (Nat.le_of_ble_eq_true rfl) (fun x1 μ2 => ?_)
    refine sIf_eq oI (off := 14) (tgt := 22) (by decide +kernel) (by decide) (fun _ => ?_) (fun _ => ?_)
    · refine sWk (lo' := [(0, vr 12 0)]) [0] rfl ?_
      exact X11_moveOf_J22_ok μ2
    · refine sBk (lo' := [(0, vr 12 0), (1, vi a1), (2, vi a2), (3, vi a3)]) (st' := [vi a2, vr 5 0]) (μ' := μ2) (pc' := 16) [(.aload_n 0, 0, 0, 0, 0), (.getfield 16, 11, 4, 0, 0), (.iload_n 2, 0, 0, 0, 0)] (by decide +kernel) rfl rfl ?_
      refine sCvI oI rfl (ci := 4) (q := (5, 0)) (avs := [vi a2]) (rest := []) (tX4_hasMill 0 a2 μ2) (by decide) (by decide +kernel) lk_11_226 yv_X4_hasMill rfl (by decide) rfl rfl rfl (Nat.le_of_ble_eq_true rfl) (fun x3 μ4 => ?_)
      refine sIf_ne oI (off := 9) (tgt := 28) (by decide +kernel) (by decide) (fun _ => ?_) (fun _ => ?_)
      · refine sBk (lo' := [(0, vr 12 0), (1, vi a1), (2, vi a2), (3, vi a3)]) (st' := [vi a2, vi a1]) (μ' := μ4) (pc' := 30) [(.iload_n 1, 0, 0, 0, 0), (.iload_n 2, 0, 0, 0, 0)] (by decide +kernel) rfl rfl ?_
        refine sIc_eq oI (off := 13) (tgt := 43) (by decide +kernel) (by decide) (fun _ => ?_) (fun _ => ?_)
        · refine sWk (lo' := [(0, vr 12 0)]) [0] rfl ?_
          exact X11_moveOf_J43_ok μ4
        · refine sBk (lo' := [(0, vr 12 0), (1, vi a1), (2, vi a2), (3, vi a3)]) (st' := [vi 1, vi a3]) (μ' := μ4) (pc' := 35) [(.iload_n 3, 0, 0, 0, 0), (.iconst 1, 0, 0, 1, 0)] (by decide +kernel) rfl rfl ?_
          refine sIc_lt oI (off := 8) (tgt := 43) (by decide +kernel) (by decide) (fun _ => ?_) (fun _ => ?_)
          · refine sWk (lo' := [(0, vr 12 0)]) [0] rfl ?_
            exact X11_moveOf_J43_ok μ4
          · refine sBk (lo' := [(0, vr 12 0), (1, vi a1), (2, vi a2), (3, vi a3)]) (st' := [vi 4, vi a3]) (μ' := μ4) (pc' := 40) [(.iload_n 3, 0, 0, 0, 0), (.iconst 4, 0, 0, 4, 0)] (by decide +kernel) rfl rfl ?_
            refine sIc_le oI (off := 9) (tgt := 49) (by decide +kernel) (by decide) (fun _ => ?_) (fun _ => ?_)
            · refine sBk (lo' := [(0, vr 12 0), (1, vi a1), (2, vi a2), (3, vi a3)]) (st' := [vi a3, vi a2, vi a1, vr 5 0, vr 1 0]) (μ' := μ4) (pc' := 60) [(.aload_n 0, 0, 0, 0, 0), (.getfield 66, 11, 12, 0, 0), (.aload_n 0, 0, 0, 0, 0), (.getfield 16, 11, 4, 0, 0), (.iload_n 1, 0, 0, 0, 0), (.iload_n 2, 0, 0, 0, 0), (.iload_n 3, 0, 0, 0, 0)] (by decide +kernel) rfl rfl ?_
              refine sCvI oI rfl (ci := 0) (q := (1, 0)) (avs := [vr 5 0, vi a1, vi a2, vi a3]) (rest := []) (tX0_bestLead 0 a1 a2 a3 μ4) (by decide) (by decide +kernel) lk_11_367 yv_X0_bestLead rfl (by decide) rfl rfl rfl (Nat.le_of_ble_eq_true rfl) (fun x5 μ6 => ?_)
              refine sBk (lo' := [(0, vr 12 0), (1, vi a1), (2, vi a2), (3, vi a3)]) (st' := [vi (rI μ6 1 0 3), vr 12 0]) (μ' := μ6) (pc' := 72) [(.pop, 0, 0, 0, 0), (.aload_n 0, 0, 0, 0, 0), (.aload_n 0, 0, 0, 0, 0), (.getfield 66, 11, 12, 0, 0), (.getfield 370, 0, 3, 0, 0)] (by decide +kernel) rfl rfl ?_
              refine sCvI oI rfl (ci := 11) (q := (12, 0)) (avs := [vi (rI μ6 1 0 3)]) (rest := []) (tX11_give (rI μ6 1 0 3) μ6) (by decide) (by decide +kernel) lk_11_169 yv_X11_give rfl (by decide) rfl rfl rfl (Nat.le_of_ble_eq_true rfl) (fun x7 μ8 => ?_)
              exact sRi (by decide +kernel) (fun h => by cases h)
            · refine sWk (lo' := [(0, vr 12 0)]) [0] rfl ?_
              exact X11_moveOf_J43_ok μ4
      · refine sWk (lo' := [(0, vr 12 0)]) [0] rfl ?_
        exact X11_moveOf_J22_ok μ4
/-! ClockRiver.commonDivisor -/
def X11_commonDivisor_L9 : Nat → Int64 → Int64 → Int32 → sM → Option (Int64 × sM)
  | 0, _, _, _, _ => none
  | n + 1, v4, v6, v8, μ =>
    if 200 ≤ v8 then
      some (v4, μ)
    else
      if (lg_cmp v6 0) = 0 then
        some (v4, μ)
      else
        if v6 = 0 then none else
          X11_commonDivisor_L9 n v6 (lrm v4 v6) (v8 + 1) μ
theorem X11_commonDivisor_L9_ok : ∀ (n : Nat) (v4 : Int64) (v6 : Int64) (v8 : Int32) (μ : sM), sOk 11 cX11_commonDivisor 11 1 false 9 [(4, vl v4), (6, vl v6), (8, vi v8)] [] μ (oL (X11_commonDivisor_L9 n v4 v6 v8 μ)) := by
  intro n
  induction n with
  | zero =>
    intros
    exact sNo
  | succ n ih =>
    intro v4 v6 v8 μ
    unfold X11_commonDivisor_L9
    refine sBk (lo' := [(4, vl v4), (6, vl v6), (8, vi v8)]) (st' := [vi 200, vi v8]) (μ' := μ) (pc' := 14) [(.iload 8, 0, 0, 0, 0), (.sipush 200, 0, 0, 200, 0)] (by decide +kernel) rfl rfl ?_
    refine sIc_ge oL (off := 31) (tgt := 45) (by decide +kernel) (by decide) (fun _ => ?_) (fun _ => ?_)
    · refine sBk (lo' := [(4, vl v4), (6, vl v6), (8, vi v8)]) (st' := [vl v4]) (μ' := μ) (pc' := 47) [(.lload 4, 0, 0, 0, 0)] (by decide +kernel) rfl rfl ?_
      exact sRl (by decide +kernel)
    · refine sBk (lo' := [(4, vl v4), (6, vl v6), (8, vi v8)]) (st' := [vi (lg_cmp v6 0)]) (μ' := μ) (pc' := 21) [(.lload 6, 0, 0, 0, 0), (.lconst 0, 0, 0, 0, 0), (.lcmp, 0, 0, 0, 0)] (by decide +kernel) rfl rfl ?_
      refine sIf_eq oL (off := 24) (tgt := 45) (by decide +kernel) (by decide) (fun _ => ?_) (fun _ => ?_)
      · refine sBk (lo' := [(4, vl v4), (6, vl v6), (8, vi v8)]) (st' := [vl v4]) (μ' := μ) (pc' := 47) [(.lload 4, 0, 0, 0, 0)] (by decide +kernel) rfl rfl ?_
        exact sRl (by decide +kernel)
      · refine sBk (lo' := [(4, vl v4), (6, vl v6), (8, vi v8)]) (st' := [vl v6, vl v4]) (μ' := μ) (pc' := 28) [(.lload 4, 0, 0, 0, 0), (.lload 6, 0, 0, 0, 0)] (by decide +kernel) rfl rfl ?_
        refine sS_lrm oL rfl (by decide +kernel) (fun _ => ?_)
        refine sBk (lo' := [(8, vi (v8 + 1)), (6, vl (lrm v4 v6)), (4, vl v6), (9, vl (lrm v4 v6))]) (st' := []) (μ' := μ) (pc' := 42) [(.lstore 9, 0, 0, 0, 0), (.lload 6, 0, 0, 0, 0), (.lstore 4, 0, 0, 0, 0), (.lload 9, 0, 0, 0, 0), (.lstore 6, 0, 0, 0, 0), (.iinc 8 1, 0, 0, 1, 0)] (by decide +kernel) rfl rfl ?_
        refine sGt (off := (-33)) (tgt := 9) (by decide +kernel) (by decide) ?_
        refine sWk (lo' := [(4, vl v6), (6, vl (lrm v4 v6)), (8, vi (v8 + 1))]) [2, 1, 0] rfl ?_
        exact ih v6 (lrm v4 v6) (v8 + 1) μ
def X11_commonDivisor (a0 : Int64) (a2 : Int64) (μ : sM) : Option (Int64 × sM) :=
  X11_commonDivisor_L9 fuN a0 a2 0 μ
theorem tX11_commonDivisor (a0 : Int64) (a2 : Int64) (μ : sM) : sMt yX11_commonDivisor cX11_commonDivisor 11 (some .long) 1 [vl a0, vl a2] μ (oL (X11_commonDivisor a0 a2 μ)) := by
  refine sMt_of (own := 11) (bl := false) (by decide +kernel) rfl (Nat.le_of_ble_eq_true rfl) (fun r ρ h => ?_) ?_
  · obtain ⟨q, -, hq⟩ := Option.map_eq_some_iff.mp h
    cases hq
    exact rfl
  · unfold X11_commonDivisor
    show sOk 11 cX11_commonDivisor 11 1 false 0 [(0, vl a0), (2, vl a2)] [] μ _
    refine sBk (lo' := [(8, vi 0), (6, vl a2), (4, vl a0), (0, vl a0), (2, vl a2)]) (st' := []) (μ' := μ) (pc' := 9) [(.lload_n 0, 0, 0, 0, 0), (.lstore 4, 0, 0, 0, 0), (.lload_n 2, 0, 0, 0, 0), (.lstore 6, 0, 0, 0, 0), (.iconst 0, 0, 0, 0, 0), (.istore 8, 0, 0, 0, 0)] (by decide +kernel) rfl rfl ?_
    refine sWk (lo' := [(4, vl a0), (6, vl a2), (8, vi 0)]) [2, 1, 0] rfl ?_
    exact X11_commonDivisor_L9_ok fuN a0 a2 0 μ
/-! ClockRiver.tellFraction -/
def X11_tellFraction (a1 : Int64) (a3 : Int64) (μ : sM) : Option sM :=
  bL (X11_commonDivisor a1 a3 μ) fun x1 μ2 =>
    if (lmx 1 x1) = 0 then none else
      if (lmx 1 x1) = 0 then none else
        some (wL (wL μ2 12 0 1 (a1 / (lmx 1 x1))) 12 0 2 (a3 / (lmx 1 x1)))
theorem tX11_tellFraction (a1 : Int64) (a3 : Int64) (μ : sM) : sMt yX11_tellFraction cX11_tellFraction 7 none 2 [vr 12 0, vl a1, vl a3] μ (oV (X11_tellFraction a1 a3 μ)) := by
  refine sMt_of (own := 11) (bl := false) (by decide +kernel) rfl (Nat.le_of_ble_eq_true rfl) (fun r ρ h => ?_) ?_
  · obtain ⟨q, -, hq⟩ := Option.map_eq_some_iff.mp h
    cases hq
    exact rfl
  · unfold X11_tellFraction
    show sOk 11 cX11_tellFraction 7 2 false 0 [(0, vr 12 0), (1, vl a1), (3, vl a3)] [] μ _
    refine sBk (lo' := [(0, vr 12 0), (1, vl a1), (3, vl a3)]) (st' := [vl a3, vl a1, vl 1]) (μ' := μ) (pc' := 3) [(.lconst 1, 0, 0, 0, 1), (.lload_n 1, 0, 0, 0, 0), (.lload_n 3, 0, 0, 0, 0)] (by decide +kernel) rfl rfl ?_
    refine sCsL oV rfl (avs := [vl a1, vl a3]) (rest := [vl 1]) (tX11_commonDivisor a1 a3 μ) (by decide) (by decide +kernel) lk_11_405 ys_X11_commonDivisor rfl rfl (Nat.le_of_ble_eq_true rfl) (fun x1 μ2 => ?_)
    refine sMaxL (idx := 409) (p1 := 1350) (by decide +kernel) (by decide) (Nat.le_of_ble_eq_true rfl) ?_
    refine sBk (lo' := [(5, vl (lmx 1 x1)), (0, vr 12 0), (1, vl a1), (3, vl a3)]) (st' := [vl (lmx 1 x1), vl a1, vr 12 0]) (μ' := μ2) (pc' := 15) [(.lstore 5, 0, 0, 0, 0), (.aload_n 0, 0, 0, 0, 0), (.lload_n 1, 0, 0, 0, 0), (.lload 5, 0, 0, 0, 0)] (by decide +kernel) rfl rfl ?_
    refine sS_ldv oV rfl (by decide +kernel) (fun _ => ?_)
    refine sBk (lo' := [(5, vl (lmx 1 x1)), (0, vr 12 0), (1, vl a1), (3, vl a3)]) (st' := [vl (lmx 1 x1), vl a3, vr 12 0]) (μ' := wL μ2 12 0 1 (a1 / (lmx 1 x1))) (pc' := 23) [(.putfield 84, 11, 1, 0, 0), (.aload_n 0, 0, 0, 0, 0), (.lload_n 3, 0, 0, 0, 0), (.lload 5, 0, 0, 0, 0)] (by decide +kernel) rfl rfl ?_
    refine sS_ldv oV rfl (by decide +kernel) (fun _ => ?_)
    refine sBk (lo' := [(5, vl (lmx 1 x1)), (0, vr 12 0), (1, vl a1), (3, vl a3)]) (st' := []) (μ' := wL (wL μ2 12 0 1 (a1 / (lmx 1 x1))) 12 0 2 (a3 / (lmx 1 x1))) (pc' := 27) [(.putfield 7, 11, 2, 0, 0)] (by decide +kernel) rfl rfl ?_
    exact sRv (by decide +kernel)
/-! ClockRiver.share -/
def X11_share (a1 : Int32) (μ : sM) : Option (Int32 × sM) :=
  bI (X4_hasMill 0 a1 μ) fun x1 μ2 =>
    if x1 = 0 then
      bI (X11_deny 2 μ2) fun x11 μ12 =>
        if x11 = 0 ∨ x11 = 1 then some (x11, μ12) else none
    else
      bI (X2_allGround 0 μ2) fun x3 μ4 =>
        if x3 = 0 then
          bI (X11_deny 8 μ4) fun x9 μ10 =>
            if x9 = 0 ∨ x9 = 1 then some (x9, μ10) else none
        else
          if inb a1 6 = true then
            bV (X11_tellFraction (Int32.toInt64 (rI μ4 27 0 (ix a1))) (Int32.toInt64 x3) μ4) fun μ6 =>
              bI (X11_grant μ6) fun x7 μ8 =>
                if x7 = 0 ∨ x7 = 1 then some (x7, μ8) else none
          else none
theorem tX11_share (a1 : Int32) (μ : sM) : sMt yX11_share cX11_share 3 (some .boolean) 3 [vr 12 0, vi a1] μ (oI (X11_share a1 μ)) := by
  refine sMt_of (own := 11) (bl := true) (by decide +kernel) rfl (Nat.le_of_ble_eq_true rfl) (fun r ρ h => ?_) ?_
  · obtain ⟨q, -, hq⟩ := Option.map_eq_some_iff.mp h
    cases hq
    exact Or.inr ⟨rfl, rfl⟩
  · unfold X11_share
    show sOk 11 cX11_share 3 3 true 0 [(0, vr 12 0), (1, vi a1)] [] μ _
    refine sBk (lo' := [(0, vr 12 0), (1, vi a1)]) (st' := [vi a1, vr 5 0]) (μ' := μ) (pc' := 5) [(.aload_n 0, 0, 0, 0, 0), (.getfield 16, 11, 4, 0, 0), (.iload_n 1, 0, 0, 0, 0)] (by decide +kernel) rfl rfl ?_
    refine sCvI oI rfl (ci := 4) (q := (5, 0)) (avs := [vi a1]) (rest := []) (tX4_hasMill 0 a1 μ) (by decide) (by decide +kernel) lk_11_226 yv_X4_hasMill rfl (by decide) rfl rfl rfl (Nat.le_of_ble_eq_true rfl) (fun x1 μ2 => ?_)
    refine sIf_ne oI (off := 9) (tgt := 17) (by decide +kernel) (by decide) (fun _ => ?_) (fun _ => ?_)
    · refine sBk (lo' := [(0, vr 12 0), (1, vi a1)]) (st' := [vr 3 0]) (μ' := μ2) (pc' := 24) [(.aload_n 0, 0, 0, 0, 0), (.getfield 16, 11, 4, 0, 0), (.getfield 217, 4, 9, 0, 0)] (by decide +kernel) rfl rfl ?_
      refine sCvI oI rfl (ci := 2) (q := (3, 0)) (avs := []) (rest := []) (tX2_allGround 0 μ2) (by decide) (by decide +kernel) lk_11_373 yv_X2_allGround rfl (by decide) rfl rfl rfl (Nat.le_of_ble_eq_true rfl) (fun x3 μ4 => ?_)
      refine sBk (lo' := [(2, vi x3), (0, vr 12 0), (1, vi a1)]) (st' := [vi x3]) (μ' := μ4) (pc' := 29) [(.istore_n 2, 0, 0, 0, 0), (.iload_n 2, 0, 0, 0, 0)] (by decide +kernel) rfl rfl ?_
      refine sIf_ne oI (off := 10) (tgt := 39) (by decide +kernel) (by decide) (fun _ => ?_) (fun _ => ?_)
      · refine sBk (lo' := [(2, vi x3), (0, vr 12 0), (1, vi a1)]) (st' := [vi a1, vr 27 0, vr 12 0]) (μ' := μ4) (pc' := 51) [(.aload_n 0, 0, 0, 0, 0), (.aload_n 0, 0, 0, 0, 0), (.getfield 16, 11, 4, 0, 0), (.getfield 217, 4, 9, 0, 0), (.getfield 235, 2, 4, 0, 0), (.iload_n 1, 0, 0, 0, 0)] (by decide +kernel) rfl rfl ?_
        refine sS_ial oI rfl (n := 6) (j := (ix a1)) (by decide +kernel) rfl rfl rfl (fun _ => ?_)
        refine sBk (lo' := [(2, vi x3), (0, vr 12 0), (1, vi a1)]) (st' := [vl (Int32.toInt64 x3), vl (Int32.toInt64 (rI μ4 27 0 (ix a1))), vr 12 0]) (μ' := μ4) (pc' := 55) [(.i2l, 0, 0, 0, 0), (.iload_n 2, 0, 0, 0, 0), (.i2l, 0, 0, 0, 0)] (by decide +kernel) rfl rfl ?_
        refine sCvV oI rfl (ci := 11) (q := (12, 0)) (avs := [vl (Int32.toInt64 (rI μ4 27 0 (ix a1))), vl (Int32.toInt64 x3)]) (rest := []) (tX11_tellFraction (Int32.toInt64 (rI μ4 27 0 (ix a1))) (Int32.toInt64 x3) μ4) (by decide) (by decide +kernel) lk_11_376 yv_X11_tellFraction rfl (by decide) rfl rfl rfl (Nat.le_of_ble_eq_true rfl) (fun μ6 => ?_)
        refine sBk (lo' := [(2, vi x3), (0, vr 12 0), (1, vi a1)]) (st' := [vr 12 0]) (μ' := μ6) (pc' := 59) [(.aload_n 0, 0, 0, 0, 0)] (by decide +kernel) rfl rfl ?_
        refine sCvI oI rfl (ci := 11) (q := (12, 0)) (avs := []) (rest := []) (tX11_grant μ6) (by decide) (by decide +kernel) lk_11_98 yv_X11_grant rfl (by decide) rfl rfl rfl (Nat.le_of_ble_eq_true rfl) (fun x7 μ8 => ?_)
        exact sCk oI rfl (fun h => sRi (by decide +kernel) (fun _ => h))
      · refine sBk (lo' := [(2, vi x3), (0, vr 12 0), (1, vi a1)]) (st' := [vi 8, vr 12 0]) (μ' := μ4) (pc' := 35) [(.aload_n 0, 0, 0, 0, 0), (.bipush 8, 0, 0, 8, 0)] (by decide +kernel) rfl rfl ?_
        refine sCvI oI rfl (ci := 11) (q := (12, 0)) (avs := [vi 8]) (rest := []) (tX11_deny 8 μ4) (by decide) (by decide +kernel) lk_11_91 yv_X11_deny rfl (by decide) rfl rfl rfl (Nat.le_of_ble_eq_true rfl) (fun x9 μ10 => ?_)
        exact sCk oI rfl (fun h => sRi (by decide +kernel) (fun _ => h))
    · refine sBk (lo' := [(0, vr 12 0), (1, vi a1)]) (st' := [vi 2, vr 12 0]) (μ' := μ2) (pc' := 13) [(.aload_n 0, 0, 0, 0, 0), (.iconst 2, 0, 0, 2, 0)] (by decide +kernel) rfl rfl ?_
      refine sCvI oI rfl (ci := 11) (q := (12, 0)) (avs := [vi 2]) (rest := []) (tX11_deny 2 μ2) (by decide) (by decide +kernel) lk_11_91 yv_X11_deny rfl (by decide) rfl rfl rfl (Nat.le_of_ble_eq_true rfl) (fun x11 μ12 => ?_)
      exact sCk oI rfl (fun h => sRi (by decide +kernel) (fun _ => h))
/-! ClockRiver.price -/
def X11_price (a1 : Int32) (μ : sM) : Option (Int32 × sM) :=
  bI (X4_hasWinder 0 a1 μ) fun x1 μ2 =>
    if x1 = 0 then
      bI (X11_deny 2 μ2) fun x7 μ8 =>
        if x7 = 0 ∨ x7 = 1 then some (x7, μ8) else none
    else
      if inb a1 6 = true then
        if inb a1 6 = true then
          bV (X11_tellFraction (Int32.toInt64 (rI μ2 52 0 (ix a1))) (Int32.toInt64 (rI μ2 51 0 (ix a1))) μ2) fun μ4 =>
            bI (X11_grant μ4) fun x5 μ6 =>
              if x5 = 0 ∨ x5 = 1 then some (x5, μ6) else none
        else none
      else none
theorem tX11_price (a1 : Int32) (μ : sM) : sMt yX11_price cX11_price 2 (some .boolean) 3 [vr 12 0, vi a1] μ (oI (X11_price a1 μ)) := by
  refine sMt_of (own := 11) (bl := true) (by decide +kernel) rfl (Nat.le_of_ble_eq_true rfl) (fun r ρ h => ?_) ?_
  · obtain ⟨q, -, hq⟩ := Option.map_eq_some_iff.mp h
    cases hq
    exact Or.inr ⟨rfl, rfl⟩
  · unfold X11_price
    show sOk 11 cX11_price 2 3 true 0 [(0, vr 12 0), (1, vi a1)] [] μ _
    refine sBk (lo' := [(0, vr 12 0), (1, vi a1)]) (st' := [vi a1, vr 5 0]) (μ' := μ) (pc' := 5) [(.aload_n 0, 0, 0, 0, 0), (.getfield 16, 11, 4, 0, 0), (.iload_n 1, 0, 0, 0, 0)] (by decide +kernel) rfl rfl ?_
    refine sCvI oI rfl (ci := 4) (q := (5, 0)) (avs := [vi a1]) (rest := []) (tX4_hasWinder 0 a1 μ) (by decide) (by decide +kernel) lk_11_238 yv_X4_hasWinder rfl (by decide) rfl rfl rfl (Nat.le_of_ble_eq_true rfl) (fun x1 μ2 => ?_)
    refine sIf_ne oI (off := 9) (tgt := 17) (by decide +kernel) (by decide) (fun _ => ?_) (fun _ => ?_)
    · refine sBk (lo' := [(0, vr 12 0), (1, vi a1)]) (st' := [vi a1, vr 52 0, vr 12 0]) (μ' := μ2) (pc' := 29) [(.aload_n 0, 0, 0, 0, 0), (.aload_n 0, 0, 0, 0, 0), (.getfield 16, 11, 4, 0, 0), (.getfield 241, 4, 10, 0, 0), (.getfield 250, 10, 3, 0, 0), (.iload_n 1, 0, 0, 0, 0)] (by decide +kernel) rfl rfl ?_
      refine sS_ial oI rfl (n := 6) (j := (ix a1)) (by decide +kernel) rfl rfl rfl (fun _ => ?_)
      refine sBk (lo' := [(0, vr 12 0), (1, vi a1)]) (st' := [vi a1, vr 51 0, vl (Int32.toInt64 (rI μ2 52 0 (ix a1))), vr 12 0]) (μ' := μ2) (pc' := 42) [(.i2l, 0, 0, 0, 0), (.aload_n 0, 0, 0, 0, 0), (.getfield 16, 11, 4, 0, 0), (.getfield 241, 4, 10, 0, 0), (.getfield 245, 10, 2, 0, 0), (.iload_n 1, 0, 0, 0, 0)] (by decide +kernel) rfl rfl ?_
      refine sS_ial oI rfl (n := 6) (j := (ix a1)) (by decide +kernel) rfl rfl rfl (fun _ => ?_)
      refine sBk (lo' := [(0, vr 12 0), (1, vi a1)]) (st' := [vl (Int32.toInt64 (rI μ2 51 0 (ix a1))), vl (Int32.toInt64 (rI μ2 52 0 (ix a1))), vr 12 0]) (μ' := μ2) (pc' := 44) [(.i2l, 0, 0, 0, 0)] (by decide +kernel) rfl rfl ?_
      refine sCvV oI rfl (ci := 11) (q := (12, 0)) (avs := [vl (Int32.toInt64 (rI μ2 52 0 (ix a1))), vl (Int32.toInt64 (rI μ2 51 0 (ix a1)))]) (rest := []) (tX11_tellFraction (Int32.toInt64 (rI μ2 52 0 (ix a1))) (Int32.toInt64 (rI μ2 51 0 (ix a1))) μ2) (by decide) (by decide +kernel) lk_11_376 yv_X11_tellFraction rfl (by decide) rfl rfl rfl (Nat.le_of_ble_eq_true rfl) (fun μ4 => ?_)
      refine sBk (lo' := [(0, vr 12 0), (1, vi a1)]) (st' := [vr 12 0]) (μ' := μ4) (pc' := 48) [(.aload_n 0, 0, 0, 0, 0)] (by decide +kernel) rfl rfl ?_
      refine sCvI oI rfl (ci := 11) (q := (12, 0)) (avs := []) (rest := []) (tX11_grant μ4) (by decide) (by decide +kernel) lk_11_98 yv_X11_grant rfl (by decide) rfl rfl rfl (Nat.le_of_ble_eq_true rfl) (fun x5 μ6 => ?_)
      exact sCk oI rfl (fun h => sRi (by decide +kernel) (fun _ => h))
    · refine sBk (lo' := [(0, vr 12 0), (1, vi a1)]) (st' := [vi 2, vr 12 0]) (μ' := μ2) (pc' := 13) [(.aload_n 0, 0, 0, 0, 0), (.iconst 2, 0, 0, 2, 0)] (by decide +kernel) rfl rfl ?_
      refine sCvI oI rfl (ci := 11) (q := (12, 0)) (avs := [vi 2]) (rest := []) (tX11_deny 2 μ2) (by decide) (by decide +kernel) lk_11_91 yv_X11_deny rfl (by decide) rfl rfl rfl (Nat.le_of_ble_eq_true rfl) (fun x7 μ8 => ?_)
      exact sCk oI rfl (fun h => sRi (by decide +kernel) (fun _ => h))
/-! ClockRiver.waysToRain -/
def X11_waysToRain_J69 (k34 : Int32 → Int32 → Int64 → Int32 → sM → Option (Int64 × sM)) (v1 : Int32) (v2 : Int32) (v5 : Int32) (s0 : Int64) (s1 : Int64) (μ : sM) : Option (Int64 × sM) :=
  k34 v1 v2 (s1 * s0) (v5 + 1) μ
theorem X11_waysToRain_J69_ok {k34 : Int32 → Int32 → Int64 → Int32 → sM → Option (Int64 × sM)} (hk34 : ∀ (v1 : Int32) (v2 : Int32) (v3 : Int64) (v5 : Int32) (μ : sM), sOk 11 cX11_waysToRain 6 1 false 34 [(0, vr 12 0), (1, vi v1), (2, vi v2), (3, vl v3), (5, vi v5)] [] μ (oL (k34 v1 v2 v3 v5 μ))) (v1 : Int32) (v2 : Int32) (v5 : Int32) (s0 : Int64) (s1 : Int64) (μ : sM) : sOk 11 cX11_waysToRain 6 1 false 69 [(0, vr 12 0), (1, vi v1), (2, vi v2), (5, vi v5)] [vl s0, vl s1] μ (oL (X11_waysToRain_J69 k34 v1 v2 v5 s0 s1 μ)) := by
  unfold X11_waysToRain_J69
  refine sBk (lo' := [(5, vi (v5 + 1)), (3, vl (s1 * s0)), (0, vr 12 0), (1, vi v1), (2, vi v2)]) (st' := []) (μ' := μ) (pc' := 74) [(.lmul, 0, 0, 0, 0), (.lstore_n 3, 0, 0, 0, 0), (.iinc 5 1, 0, 0, 1, 0)] (by decide +kernel) rfl rfl ?_
  refine sGt (off := (-40)) (tgt := 34) (by decide +kernel) (by decide) ?_
  refine sWk (lo' := [(0, vr 12 0), (1, vi v1), (2, vi v2), (3, vl (s1 * s0)), (5, vi (v5 + 1))]) [2, 3, 4, 1, 0] rfl ?_
  exact hk34 v1 v2 (s1 * s0) (v5 + 1) μ
def X11_waysToRain_L34 : Nat → Int32 → Int32 → Int64 → Int32 → sM → Option (Int64 × sM)
  | 0, _, _, _, _, _ => none
  | n + 1, v1, v2, v3, v5, μ =>
    if v1 ≤ v5 then
      some (v3, μ)
    else
      if v2 ≤ v5 then
        X11_waysToRain_J69 (X11_waysToRain_L34 n) v1 v2 v5 (Int32.toInt64 (16 - (rI μ 5 0 3))) v3 μ
      else
        X11_waysToRain_J69 (X11_waysToRain_L34 n) v1 v2 v5 (Int32.toInt64 (rI μ 5 0 3)) v3 μ
theorem X11_waysToRain_L34_ok : ∀ (n : Nat) (v1 : Int32) (v2 : Int32) (v3 : Int64) (v5 : Int32) (μ : sM), sOk 11 cX11_waysToRain 6 1 false 34 [(0, vr 12 0), (1, vi v1), (2, vi v2), (3, vl v3), (5, vi v5)] [] μ (oL (X11_waysToRain_L34 n v1 v2 v3 v5 μ)) := by
  intro n
  induction n with
  | zero =>
    intros
    exact sNo
  | succ n ih =>
    intro v1 v2 v3 v5 μ
    unfold X11_waysToRain_L34
    refine sBk (lo' := [(0, vr 12 0), (1, vi v1), (2, vi v2), (3, vl v3), (5, vi v5)]) (st' := [vi v1, vi v5]) (μ' := μ) (pc' := 37) [(.iload 5, 0, 0, 0, 0), (.iload_n 1, 0, 0, 0, 0)] (by decide +kernel) rfl rfl ?_
    refine sIc_ge oL (off := 40) (tgt := 77) (by decide +kernel) (by decide) (fun _ => ?_) (fun _ => ?_)
    · refine sBk (lo' := [(0, vr 12 0), (1, vi v1), (2, vi v2), (3, vl v3), (5, vi v5)]) (st' := [vl v3]) (μ' := μ) (pc' := 78) [(.lload_n 3, 0, 0, 0, 0)] (by decide +kernel) rfl rfl ?_
      exact sRl (by decide +kernel)
    · refine sBk (lo' := [(0, vr 12 0), (1, vi v1), (2, vi v2), (3, vl v3), (5, vi v5)]) (st' := [vi v2, vi v5, vl v3]) (μ' := μ) (pc' := 44) [(.lload_n 3, 0, 0, 0, 0), (.iload 5, 0, 0, 0, 0), (.iload_n 2, 0, 0, 0, 0)] (by decide +kernel) rfl rfl ?_
      refine sIc_ge oL (off := 14) (tgt := 58) (by decide +kernel) (by decide) (fun _ => ?_) (fun _ => ?_)
      · refine sBk (lo' := [(0, vr 12 0), (1, vi v1), (2, vi v2), (3, vl v3), (5, vi v5)]) (st' := [vl (Int32.toInt64 (16 - (rI μ 5 0 3))), vl v3]) (μ' := μ) (pc' := 69) [(.bipush 16, 0, 0, 16, 0), (.aload_n 0, 0, 0, 0, 0), (.getfield 16, 11, 4, 0, 0), (.getfield 295, 4, 3, 0, 0), (.isub, 0, 0, 0, 0), (.i2l, 0, 0, 0, 0)] (by decide +kernel) rfl rfl ?_
        refine sWk (lo' := [(0, vr 12 0), (1, vi v1), (2, vi v2), (5, vi v5)]) [0, 1, 2, 4] rfl ?_
        exact X11_waysToRain_J69_ok ih v1 v2 v5 (Int32.toInt64 (16 - (rI μ 5 0 3))) v3 μ
      · refine sBk (lo' := [(0, vr 12 0), (1, vi v1), (2, vi v2), (3, vl v3), (5, vi v5)]) (st' := [vl (Int32.toInt64 (rI μ 5 0 3)), vl v3]) (μ' := μ) (pc' := 55) [(.aload_n 0, 0, 0, 0, 0), (.getfield 16, 11, 4, 0, 0), (.getfield 295, 4, 3, 0, 0), (.i2l, 0, 0, 0, 0)] (by decide +kernel) rfl rfl ?_
        refine sGt (off := 14) (tgt := 69) (by decide +kernel) (by decide) ?_
        refine sWk (lo' := [(0, vr 12 0), (1, vi v1), (2, vi v2), (5, vi v5)]) [0, 1, 2, 4] rfl ?_
        exact X11_waysToRain_J69_ok ih v1 v2 v5 (Int32.toInt64 (rI μ 5 0 3)) v3 μ
def X11_waysToRain_L5 : Nat → Int32 → Int32 → Int64 → Int32 → sM → Option (Int64 × sM)
  | 0, _, _, _, _, _ => none
  | n + 1, v1, v2, v3, v5, μ =>
    if v2 ≤ v5 then
      X11_waysToRain_L34 fuN v1 v2 v3 0 μ
    else
      if (Int32.toInt64 (v5 + 1)) = 0 then none else
        X11_waysToRain_L5 n v1 v2 ((v3 * (Int32.toInt64 (v1 - v5))) / (Int32.toInt64 (v5 + 1))) (v5 + 1) μ
theorem X11_waysToRain_L5_ok : ∀ (n : Nat) (v1 : Int32) (v2 : Int32) (v3 : Int64) (v5 : Int32) (μ : sM), sOk 11 cX11_waysToRain 6 1 false 5 [(0, vr 12 0), (1, vi v1), (2, vi v2), (3, vl v3), (5, vi v5)] [] μ (oL (X11_waysToRain_L5 n v1 v2 v3 v5 μ)) := by
  intro n
  induction n with
  | zero =>
    intros
    exact sNo
  | succ n ih =>
    intro v1 v2 v3 v5 μ
    unfold X11_waysToRain_L5
    refine sBk (lo' := [(0, vr 12 0), (1, vi v1), (2, vi v2), (3, vl v3), (5, vi v5)]) (st' := [vi v2, vi v5]) (μ' := μ) (pc' := 8) [(.iload 5, 0, 0, 0, 0), (.iload_n 2, 0, 0, 0, 0)] (by decide +kernel) rfl rfl ?_
    refine sIc_ge oL (off := 23) (tgt := 31) (by decide +kernel) (by decide) (fun _ => ?_) (fun _ => ?_)
    · refine sBk (lo' := [(5, vi 0), (0, vr 12 0), (1, vi v1), (2, vi v2), (3, vl v3)]) (st' := []) (μ' := μ) (pc' := 34) [(.iconst 0, 0, 0, 0, 0), (.istore 5, 0, 0, 0, 0)] (by decide +kernel) rfl rfl ?_
      refine sWk (lo' := [(0, vr 12 0), (1, vi v1), (2, vi v2), (3, vl v3), (5, vi 0)]) [1, 2, 3, 4, 0] rfl ?_
      exact X11_waysToRain_L34_ok fuN v1 v2 v3 0 μ
    · refine sBk (lo' := [(0, vr 12 0), (1, vi v1), (2, vi v2), (3, vl v3), (5, vi v5)]) (st' := [vl (Int32.toInt64 (v5 + 1)), vl (v3 * (Int32.toInt64 (v1 - v5)))]) (μ' := μ) (pc' := 23) [(.lload_n 3, 0, 0, 0, 0), (.iload_n 1, 0, 0, 0, 0), (.iload 5, 0, 0, 0, 0), (.isub, 0, 0, 0, 0), (.i2l, 0, 0, 0, 0), (.lmul, 0, 0, 0, 0), (.iload 5, 0, 0, 0, 0), (.iconst 1, 0, 0, 1, 0), (.iadd, 0, 0, 0, 0), (.i2l, 0, 0, 0, 0)] (by decide +kernel) rfl rfl ?_
      refine sS_ldv oL rfl (by decide +kernel) (fun _ => ?_)
      refine sBk (lo' := [(5, vi (v5 + 1)), (3, vl ((v3 * (Int32.toInt64 (v1 - v5))) / (Int32.toInt64 (v5 + 1)))), (0, vr 12 0), (1, vi v1), (2, vi v2)]) (st' := []) (μ' := μ) (pc' := 28) [(.lstore_n 3, 0, 0, 0, 0), (.iinc 5 1, 0, 0, 1, 0)] (by decide +kernel) rfl rfl ?_
      refine sGt (off := (-23)) (tgt := 5) (by decide +kernel) (by decide) ?_
      refine sWk (lo' := [(0, vr 12 0), (1, vi v1), (2, vi v2), (3, vl ((v3 * (Int32.toInt64 (v1 - v5))) / (Int32.toInt64 (v5 + 1)))), (5, vi (v5 + 1))]) [2, 3, 4, 1, 0] rfl ?_
      exact ih v1 v2 ((v3 * (Int32.toInt64 (v1 - v5))) / (Int32.toInt64 (v5 + 1))) (v5 + 1) μ
def X11_waysToRain (a1 : Int32) (a2 : Int32) (μ : sM) : Option (Int64 × sM) :=
  X11_waysToRain_L5 fuN a1 a2 1 0 μ
theorem tX11_waysToRain (a1 : Int32) (a2 : Int32) (μ : sM) : sMt yX11_waysToRain cX11_waysToRain 6 (some .long) 1 [vr 12 0, vi a1, vi a2] μ (oL (X11_waysToRain a1 a2 μ)) := by
  refine sMt_of (own := 11) (bl := false) (by decide +kernel) rfl (Nat.le_of_ble_eq_true rfl) (fun r ρ h => ?_) ?_
  · obtain ⟨q, -, hq⟩ := Option.map_eq_some_iff.mp h
    cases hq
    exact rfl
  · unfold X11_waysToRain
    show sOk 11 cX11_waysToRain 6 1 false 0 [(0, vr 12 0), (1, vi a1), (2, vi a2)] [] μ _
    refine sBk (lo' := [(5, vi 0), (3, vl 1), (0, vr 12 0), (1, vi a1), (2, vi a2)]) (st' := []) (μ' := μ) (pc' := 5) [(.lconst 1, 0, 0, 0, 1), (.lstore_n 3, 0, 0, 0, 0), (.iconst 0, 0, 0, 0, 0), (.istore 5, 0, 0, 0, 0)] (by decide +kernel) rfl rfl ?_
    refine sWk (lo' := [(0, vr 12 0), (1, vi a1), (2, vi a2), (3, vl 1), (5, vi 0)]) [2, 3, 4, 1, 0] rfl ?_
    exact X11_waysToRain_L5_ok fuN a1 a2 1 0 μ
/-! ClockRiver.wet -/
def X11_wet_J20 (μ : sM) : Option (Int32 × sM) :=
  bI (X11_deny 5 μ) fun x1 μ2 =>
    if x1 = 0 ∨ x1 = 1 then some (x1, μ2) else none
theorem X11_wet_J20_ok (μ : sM) : sOk 11 cX11_wet 8 3 true 20 [(0, vr 12 0)] [] μ (oI (X11_wet_J20 μ)) := by
  unfold X11_wet_J20
  refine sBk (lo' := [(0, vr 12 0)]) (st' := [vi 5, vr 12 0]) (μ' := μ) (pc' := 22) [(.aload_n 0, 0, 0, 0, 0), (.iconst 5, 0, 0, 5, 0)] (by decide +kernel) rfl rfl ?_
  refine sCvI oI rfl (ci := 11) (q := (12, 0)) (avs := [vi 5]) (rest := []) (tX11_deny 5 μ) (by decide) (by decide +kernel) lk_11_91 yv_X11_deny rfl (by decide) rfl rfl rfl (Nat.le_of_ble_eq_true rfl) (fun x1 μ2 => ?_)
  exact sCk oI rfl (fun h => sRi (by decide +kernel) (fun _ => h))
def X11_wet_L57 : Nat → Int32 → Int64 → Int64 → Int32 → sM → Option (Int32 × sM)
  | 0, _, _, _, _, _ => none
  | n + 1, v1, v3, v5, v7, μ =>
    if v1 < v7 then
      bV (X11_tellFraction v3 v5 μ) fun μ2 =>
        bI (X11_grant μ2) fun x3 μ4 =>
          if x3 = 0 ∨ x3 = 1 then some (x3, μ4) else none
    else
      bL (X11_waysToRain v1 v7 μ) fun x5 μ6 =>
        X11_wet_L57 n v1 (v3 + x5) v5 (v7 + 1) μ6
theorem X11_wet_L57_ok : ∀ (n : Nat) (v1 : Int32) (v3 : Int64) (v5 : Int64) (v7 : Int32) (μ : sM), sOk 11 cX11_wet 8 3 true 57 [(0, vr 12 0), (1, vi v1), (3, vl v3), (5, vl v5), (7, vi v7)] [] μ (oI (X11_wet_L57 n v1 v3 v5 v7 μ)) := by
  intro n
  induction n with
  | zero =>
    intros
    exact sNo
  | succ n ih =>
    intro v1 v3 v5 v7 μ
    unfold X11_wet_L57
    refine sBk (lo' := [(0, vr 12 0), (1, vi v1), (3, vl v3), (5, vl v5), (7, vi v7)]) (st' := [vi v1, vi v7]) (μ' := μ) (pc' := 60) [(.iload 7, 0, 0, 0, 0), (.iload_n 1, 0, 0, 0, 0)] (by decide +kernel) rfl rfl ?_
    refine sIc_gt oI (off := 19) (tgt := 79) (by decide +kernel) (by decide) (fun _ => ?_) (fun _ => ?_)
    · refine sBk (lo' := [(0, vr 12 0), (1, vi v1), (3, vl v3), (5, vl v5), (7, vi v7)]) (st' := [vl v5, vl v3, vr 12 0]) (μ' := μ) (pc' := 83) [(.aload_n 0, 0, 0, 0, 0), (.lload_n 3, 0, 0, 0, 0), (.lload 5, 0, 0, 0, 0)] (by decide +kernel) rfl rfl ?_
      refine sCvV oI rfl (ci := 11) (q := (12, 0)) (avs := [vl v3, vl v5]) (rest := []) (tX11_tellFraction v3 v5 μ) (by decide) (by decide +kernel) lk_11_376 yv_X11_tellFraction rfl (by decide) rfl rfl rfl (Nat.le_of_ble_eq_true rfl) (fun μ2 => ?_)
      refine sBk (lo' := [(0, vr 12 0), (1, vi v1), (3, vl v3), (5, vl v5), (7, vi v7)]) (st' := [vr 12 0]) (μ' := μ2) (pc' := 87) [(.aload_n 0, 0, 0, 0, 0)] (by decide +kernel) rfl rfl ?_
      refine sCvI oI rfl (ci := 11) (q := (12, 0)) (avs := []) (rest := []) (tX11_grant μ2) (by decide) (by decide +kernel) lk_11_98 yv_X11_grant rfl (by decide) rfl rfl rfl (Nat.le_of_ble_eq_true rfl) (fun x3 μ4 => ?_)
      exact sCk oI rfl (fun h => sRi (by decide +kernel) (fun _ => h))
    · refine sBk (lo' := [(0, vr 12 0), (1, vi v1), (3, vl v3), (5, vl v5), (7, vi v7)]) (st' := [vi v7, vi v1, vr 12 0, vl v3]) (μ' := μ) (pc' := 68) [(.lload_n 3, 0, 0, 0, 0), (.aload_n 0, 0, 0, 0, 0), (.iload_n 1, 0, 0, 0, 0), (.iload 7, 0, 0, 0, 0)] (by decide +kernel) rfl rfl ?_
      refine sCvL oI rfl (ci := 11) (q := (12, 0)) (avs := [vi v1, vi v7]) (rest := [vl v3]) (tX11_waysToRain v1 v7 μ) (by decide) (by decide +kernel) lk_11_382 yv_X11_waysToRain rfl (by decide) rfl rfl rfl (Nat.le_of_ble_eq_true rfl) (fun x5 μ6 => ?_)
      refine sBk (lo' := [(7, vi (v7 + 1)), (3, vl (v3 + x5)), (0, vr 12 0), (1, vi v1), (5, vl v5)]) (st' := []) (μ' := μ6) (pc' := 76) [(.ladd, 0, 0, 0, 0), (.lstore_n 3, 0, 0, 0, 0), (.iinc 7 1, 0, 0, 1, 0)] (by decide +kernel) rfl rfl ?_
      refine sGt (off := (-19)) (tgt := 57) (by decide +kernel) (by decide) ?_
      refine sWk (lo' := [(0, vr 12 0), (1, vi v1), (3, vl (v3 + x5)), (5, vl v5), (7, vi (v7 + 1))]) [2, 3, 1, 4, 0] rfl ?_
      exact ih v1 (v3 + x5) v5 (v7 + 1) μ6
def X11_wet_L34 : Nat → Int32 → Int32 → Int64 → Int64 → Int32 → sM → Option (Int32 × sM)
  | 0, _, _, _, _, _, _ => none
  | n + 1, v1, v2, v3, v5, v7, μ =>
    if v1 ≤ v7 then
      X11_wet_L57 fuN v1 v3 v5 v2 μ
    else
      X11_wet_L34 n v1 v2 v3 (v5 * 16) (v7 + 1) μ
theorem X11_wet_L34_ok : ∀ (n : Nat) (v1 : Int32) (v2 : Int32) (v3 : Int64) (v5 : Int64) (v7 : Int32) (μ : sM), sOk 11 cX11_wet 8 3 true 34 [(0, vr 12 0), (1, vi v1), (2, vi v2), (3, vl v3), (5, vl v5), (7, vi v7)] [] μ (oI (X11_wet_L34 n v1 v2 v3 v5 v7 μ)) := by
  intro n
  induction n with
  | zero =>
    intros
    exact sNo
  | succ n ih =>
    intro v1 v2 v3 v5 v7 μ
    unfold X11_wet_L34
    refine sBk (lo' := [(0, vr 12 0), (1, vi v1), (2, vi v2), (3, vl v3), (5, vl v5), (7, vi v7)]) (st' := [vi v1, vi v7]) (μ' := μ) (pc' := 37) [(.iload 7, 0, 0, 0, 0), (.iload_n 1, 0, 0, 0, 0)] (by decide +kernel) rfl rfl ?_
    refine sIc_ge oI (off := 17) (tgt := 54) (by decide +kernel) (by decide) (fun _ => ?_) (fun _ => ?_)
    · refine sBk (lo' := [(7, vi v2), (0, vr 12 0), (1, vi v1), (2, vi v2), (3, vl v3), (5, vl v5)]) (st' := []) (μ' := μ) (pc' := 57) [(.iload_n 2, 0, 0, 0, 0), (.istore 7, 0, 0, 0, 0)] (by decide +kernel) rfl rfl ?_
      refine sWk (lo' := [(0, vr 12 0), (1, vi v1), (3, vl v3), (5, vl v5), (7, vi v2)]) [1, 2, 4, 5, 0] rfl ?_
      exact X11_wet_L57_ok fuN v1 v3 v5 v2 μ
    · refine sBk (lo' := [(7, vi (v7 + 1)), (5, vl (v5 * 16)), (0, vr 12 0), (1, vi v1), (2, vi v2), (3, vl v3)]) (st' := []) (μ' := μ) (pc' := 51) [(.lload 5, 0, 0, 0, 0), (.ldc2_w 380, 0, 0, 0, 16), (.lmul, 0, 0, 0, 0), (.lstore 5, 0, 0, 0, 0), (.iinc 7 1, 0, 0, 1, 0)] (by decide +kernel) rfl rfl ?_
      refine sGt (off := (-17)) (tgt := 34) (by decide +kernel) (by decide) ?_
      refine sWk (lo' := [(0, vr 12 0), (1, vi v1), (2, vi v2), (3, vl v3), (5, vl (v5 * 16)), (7, vi (v7 + 1))]) [2, 3, 4, 5, 1, 0] rfl ?_
      exact ih v1 v2 v3 (v5 * 16) (v7 + 1) μ
def X11_wet (a1 : Int32) (a2 : Int32) (μ : sM) : Option (Int32 × sM) :=
  if a1 < 0 then
    X11_wet_J20 μ
  else
    if 12 < a1 then
      X11_wet_J20 μ
    else
      if a2 < 0 then
        X11_wet_J20 μ
      else
        if a2 ≤ 12 then
          X11_wet_L34 fuN a1 a2 0 1 0 μ
        else
          X11_wet_J20 μ
theorem tX11_wet (a1 : Int32) (a2 : Int32) (μ : sM) : sMt yX11_wet cX11_wet 8 (some .boolean) 3 [vr 12 0, vi a1, vi a2] μ (oI (X11_wet a1 a2 μ)) := by
  refine sMt_of (own := 11) (bl := true) (by decide +kernel) rfl (Nat.le_of_ble_eq_true rfl) (fun r ρ h => ?_) ?_
  · obtain ⟨q, -, hq⟩ := Option.map_eq_some_iff.mp h
    cases hq
    exact Or.inr ⟨rfl, rfl⟩
  · unfold X11_wet
    show sOk 11 cX11_wet 8 3 true 0 [(0, vr 12 0), (1, vi a1), (2, vi a2)] [] μ _
    refine sBk (lo' := [(0, vr 12 0), (1, vi a1), (2, vi a2)]) (st' := [vi a1]) (μ' := μ) (pc' := 1) [(.iload_n 1, 0, 0, 0, 0)] (by decide +kernel) rfl rfl ?_
    refine sIf_lt oI (off := 19) (tgt := 20) (by decide +kernel) (by decide) (fun _ => ?_) (fun _ => ?_)
    · refine sWk (lo' := [(0, vr 12 0)]) [0] rfl ?_
      exact X11_wet_J20_ok μ
    · refine sBk (lo' := [(0, vr 12 0), (1, vi a1), (2, vi a2)]) (st' := [vi 12, vi a1]) (μ' := μ) (pc' := 7) [(.iload_n 1, 0, 0, 0, 0), (.bipush 12, 0, 0, 12, 0)] (by decide +kernel) rfl rfl ?_
      refine sIc_gt oI (off := 13) (tgt := 20) (by decide +kernel) (by decide) (fun _ => ?_) (fun _ => ?_)
      · refine sWk (lo' := [(0, vr 12 0)]) [0] rfl ?_
        exact X11_wet_J20_ok μ
      · refine sBk (lo' := [(0, vr 12 0), (1, vi a1), (2, vi a2)]) (st' := [vi a2]) (μ' := μ) (pc' := 11) [(.iload_n 2, 0, 0, 0, 0)] (by decide +kernel) rfl rfl ?_
        refine sIf_lt oI (off := 9) (tgt := 20) (by decide +kernel) (by decide) (fun _ => ?_) (fun _ => ?_)
        · refine sWk (lo' := [(0, vr 12 0)]) [0] rfl ?_
          exact X11_wet_J20_ok μ
        · refine sBk (lo' := [(0, vr 12 0), (1, vi a1), (2, vi a2)]) (st' := [vi 12, vi a2]) (μ' := μ) (pc' := 17) [(.iload_n 2, 0, 0, 0, 0), (.bipush 12, 0, 0, 12, 0)] (by decide +kernel) rfl rfl ?_
          refine sIc_le oI (off := 9) (tgt := 26) (by decide +kernel) (by decide) (fun _ => ?_) (fun _ => ?_)
          · refine sBk (lo' := [(7, vi 0), (5, vl 1), (3, vl 0), (0, vr 12 0), (1, vi a1), (2, vi a2)]) (st' := []) (μ' := μ) (pc' := 34) [(.lconst 0, 0, 0, 0, 0), (.lstore_n 3, 0, 0, 0, 0), (.lconst 1, 0, 0, 0, 1), (.lstore 5, 0, 0, 0, 0), (.iconst 0, 0, 0, 0, 0), (.istore 7, 0, 0, 0, 0)] (by decide +kernel) rfl rfl ?_
            refine sWk (lo' := [(0, vr 12 0), (1, vi a1), (2, vi a2), (3, vl 0), (5, vl 1), (7, vi 0)]) [3, 4, 5, 2, 1, 0] rfl ?_
            exact X11_wet_L34_ok fuN a1 a2 0 1 0 μ
          · refine sWk (lo' := [(0, vr 12 0)]) [0] rfl ?_
            exact X11_wet_J20_ok μ
/-! ClockRiver.live -/
def X11_live_J11 (μ : sM) : Option (Int32 × sM) :=
  bI (X11_refuse 5 μ) fun x1 μ2 =>
    some (x1, μ2)
theorem X11_live_J11_ok (μ : sM) : sOk 11 cX11_live 2 7 false 11 [(0, vr 12 0)] [] μ (oI (X11_live_J11 μ)) := by
  unfold X11_live_J11
  refine sBk (lo' := [(0, vr 12 0)]) (st' := [vi 5, vr 12 0]) (μ' := μ) (pc' := 13) [(.aload_n 0, 0, 0, 0, 0), (.iconst 5, 0, 0, 5, 0)] (by decide +kernel) rfl rfl ?_
  refine sCvI oI rfl (ci := 11) (q := (12, 0)) (avs := [vi 5]) (rest := []) (tX11_refuse 5 μ) (by decide) (by decide +kernel) lk_11_110 yv_X11_refuse rfl (by decide) rfl rfl rfl (Nat.le_of_ble_eq_true rfl) (fun x1 μ2 => ?_)
  exact sRi (by decide +kernel) (fun h => by cases h)
def X11_live (a1 : Int32) (μ : sM) : Option (Int32 × sM) :=
  if a1 < 0 then
    X11_live_J11 μ
  else
    if a1 ≤ 9999 then
      if (rI μ 9 0 0) = 0 then
        bI (X11_refuse 8 μ) fun x5 μ6 =>
          some (x5, μ6)
      else
        bV (X1_run 0 0 0 a1 μ) fun μ2 =>
          bI (X11_give (rI μ2 2 0 1) μ2) fun x3 μ4 =>
            some (x3, μ4)
    else
      X11_live_J11 μ
theorem tX11_live (a1 : Int32) (μ : sM) : sMt yX11_live cX11_live 2 (some .int) 7 [vr 12 0, vi a1] μ (oI (X11_live a1 μ)) := by
  refine sMt_of (own := 11) (bl := false) (by decide +kernel) rfl (Nat.le_of_ble_eq_true rfl) (fun r ρ h => ?_) ?_
  · obtain ⟨q, -, hq⟩ := Option.map_eq_some_iff.mp h
    cases hq
    exact Or.inl rfl
  · unfold X11_live
    show sOk 11 cX11_live 2 7 false 0 [(0, vr 12 0), (1, vi a1)] [] μ _
    refine sBk (lo' := [(0, vr 12 0), (1, vi a1)]) (st' := [vi a1]) (μ' := μ) (pc' := 1) [(.iload_n 1, 0, 0, 0, 0)] (by decide +kernel) rfl rfl ?_
    refine sIf_lt oI (off := 10) (tgt := 11) (by decide +kernel) (by decide) (fun _ => ?_) (fun _ => ?_)
    · refine sWk (lo' := [(0, vr 12 0)]) [0] rfl ?_
      exact X11_live_J11_ok μ
    · refine sBk (lo' := [(0, vr 12 0), (1, vi a1)]) (st' := [vi 9999, vi a1]) (μ' := μ) (pc' := 8) [(.iload_n 1, 0, 0, 0, 0), (.sipush 9999, 0, 0, 9999, 0)] (by decide +kernel) rfl rfl ?_
      refine sIc_le oI (off := 9) (tgt := 17) (by decide +kernel) (by decide) (fun _ => ?_) (fun _ => ?_)
      · refine sBk (lo' := [(0, vr 12 0), (1, vi a1)]) (st' := [vi (rI μ 9 0 0)]) (μ' := μ) (pc' := 24) [(.aload_n 0, 0, 0, 0, 0), (.getfield 23, 11, 5, 0, 0), (.getfield 386, 8, 0, 0, 0)] (by decide +kernel) rfl rfl ?_
        refine sIf_ne oI (off := 10) (tgt := 34) (by decide +kernel) (by decide) (fun _ => ?_) (fun _ => ?_)
        · refine sBk (lo' := [(0, vr 12 0), (1, vi a1)]) (st' := [vi a1, vr 9 0, vr 5 0, vr 2 0]) (μ' := μ) (pc' := 47) [(.aload_n 0, 0, 0, 0, 0), (.getfield 73, 11, 13, 0, 0), (.aload_n 0, 0, 0, 0, 0), (.getfield 16, 11, 4, 0, 0), (.aload_n 0, 0, 0, 0, 0), (.getfield 23, 11, 5, 0, 0), (.iload_n 1, 0, 0, 0, 0)] (by decide +kernel) rfl rfl ?_
          refine sCvV oI rfl (ci := 1) (q := (2, 0)) (avs := [vr 5 0, vr 9 0, vi a1]) (rest := []) (tX1_run 0 0 0 a1 μ) (by decide) (by decide +kernel) lk_11_389 yv_X1_run rfl (by decide) rfl rfl rfl (Nat.le_of_ble_eq_true rfl) (fun μ2 => ?_)
          refine sBk (lo' := [(0, vr 12 0), (1, vi a1)]) (st' := [vi (rI μ2 2 0 1), vr 12 0]) (μ' := μ2) (pc' := 58) [(.aload_n 0, 0, 0, 0, 0), (.aload_n 0, 0, 0, 0, 0), (.getfield 73, 11, 13, 0, 0), (.getfield 393, 1, 1, 0, 0)] (by decide +kernel) rfl rfl ?_
          refine sCvI oI rfl (ci := 11) (q := (12, 0)) (avs := [vi (rI μ2 2 0 1)]) (rest := []) (tX11_give (rI μ2 2 0 1) μ2) (by decide) (by decide +kernel) lk_11_169 yv_X11_give rfl (by decide) rfl rfl rfl (Nat.le_of_ble_eq_true rfl) (fun x3 μ4 => ?_)
          exact sRi (by decide +kernel) (fun h => by cases h)
        · refine sBk (lo' := [(0, vr 12 0), (1, vi a1)]) (st' := [vi 8, vr 12 0]) (μ' := μ) (pc' := 30) [(.aload_n 0, 0, 0, 0, 0), (.bipush 8, 0, 0, 8, 0)] (by decide +kernel) rfl rfl ?_
          refine sCvI oI rfl (ci := 11) (q := (12, 0)) (avs := [vi 8]) (rest := []) (tX11_refuse 8 μ) (by decide) (by decide +kernel) lk_11_110 yv_X11_refuse rfl (by decide) rfl rfl rfl (Nat.le_of_ble_eq_true rfl) (fun x5 μ6 => ?_)
          exact sRi (by decide +kernel) (fun h => by cases h)
      · refine sWk (lo' := [(0, vr 12 0)]) [0] rfl ?_
        exact X11_live_J11_ok μ
/-! ClockRiver.lived -/
def X11_lived_J9 (μ : sM) : Option (Int32 × sM) :=
  bI (X11_refuse 5 μ) fun x1 μ2 =>
    some (x1, μ2)
theorem X11_lived_J9_ok (μ : sM) : sOk 11 cX11_lived 2 2 false 9 [(0, vr 12 0)] [] μ (oI (X11_lived_J9 μ)) := by
  unfold X11_lived_J9
  refine sBk (lo' := [(0, vr 12 0)]) (st' := [vi 5, vr 12 0]) (μ' := μ) (pc' := 11) [(.aload_n 0, 0, 0, 0, 0), (.iconst 5, 0, 0, 5, 0)] (by decide +kernel) rfl rfl ?_
  refine sCvI oI rfl (ci := 11) (q := (12, 0)) (avs := [vi 5]) (rest := []) (tX11_refuse 5 μ) (by decide) (by decide +kernel) lk_11_110 yv_X11_refuse rfl (by decide) rfl rfl rfl (Nat.le_of_ble_eq_true rfl) (fun x1 μ2 => ?_)
  exact sRi (by decide +kernel) (fun h => by cases h)
def X11_lived (a1 : Int32) (μ : sM) : Option (Int32 × sM) :=
  if a1 < 0 then
    X11_lived_J9 μ
  else
    if a1 ≤ 4 then
      if (rI μ 2 0 0) = 0 then
        bI (X11_refuse 8 μ) fun x5 μ6 =>
          some (x5, μ6)
      else
        bI (X1_figure 0 a1 μ) fun x1 μ2 =>
          bI (X11_give x1 μ2) fun x3 μ4 =>
            some (x3, μ4)
    else
      X11_lived_J9 μ
theorem tX11_lived (a1 : Int32) (μ : sM) : sMt yX11_lived cX11_lived 2 (some .int) 2 [vr 12 0, vi a1] μ (oI (X11_lived a1 μ)) := by
  refine sMt_of (own := 11) (bl := false) (by decide +kernel) rfl (Nat.le_of_ble_eq_true rfl) (fun r ρ h => ?_) ?_
  · obtain ⟨q, -, hq⟩ := Option.map_eq_some_iff.mp h
    cases hq
    exact Or.inl rfl
  · unfold X11_lived
    show sOk 11 cX11_lived 2 2 false 0 [(0, vr 12 0), (1, vi a1)] [] μ _
    refine sBk (lo' := [(0, vr 12 0), (1, vi a1)]) (st' := [vi a1]) (μ' := μ) (pc' := 1) [(.iload_n 1, 0, 0, 0, 0)] (by decide +kernel) rfl rfl ?_
    refine sIf_lt oI (off := 8) (tgt := 9) (by decide +kernel) (by decide) (fun _ => ?_) (fun _ => ?_)
    · refine sWk (lo' := [(0, vr 12 0)]) [0] rfl ?_
      exact X11_lived_J9_ok μ
    · refine sBk (lo' := [(0, vr 12 0), (1, vi a1)]) (st' := [vi 4, vi a1]) (μ' := μ) (pc' := 6) [(.iload_n 1, 0, 0, 0, 0), (.iconst 4, 0, 0, 4, 0)] (by decide +kernel) rfl rfl ?_
      refine sIc_le oI (off := 9) (tgt := 15) (by decide +kernel) (by decide) (fun _ => ?_) (fun _ => ?_)
      · refine sBk (lo' := [(0, vr 12 0), (1, vi a1)]) (st' := [vi (rI μ 2 0 0)]) (μ' := μ) (pc' := 22) [(.aload_n 0, 0, 0, 0, 0), (.getfield 73, 11, 13, 0, 0), (.getfield 394, 1, 0, 0, 0)] (by decide +kernel) rfl rfl ?_
        refine sIf_ne oI (off := 10) (tgt := 32) (by decide +kernel) (by decide) (fun _ => ?_) (fun _ => ?_)
        · refine sBk (lo' := [(0, vr 12 0), (1, vi a1)]) (st' := [vi a1, vr 2 0, vr 12 0]) (μ' := μ) (pc' := 38) [(.aload_n 0, 0, 0, 0, 0), (.aload_n 0, 0, 0, 0, 0), (.getfield 73, 11, 13, 0, 0), (.iload_n 1, 0, 0, 0, 0)] (by decide +kernel) rfl rfl ?_
          refine sCvI oI rfl (ci := 1) (q := (2, 0)) (avs := [vi a1]) (rest := [vr 12 0]) (tX1_figure 0 a1 μ) (by decide) (by decide +kernel) lk_11_397 yv_X1_figure rfl (by decide) rfl rfl rfl (Nat.le_of_ble_eq_true rfl) (fun x1 μ2 => ?_)
          refine sCvI oI rfl (ci := 11) (q := (12, 0)) (avs := [vi x1]) (rest := []) (tX11_give x1 μ2) (by decide) (by decide +kernel) lk_11_169 yv_X11_give rfl (by decide) rfl rfl rfl (Nat.le_of_ble_eq_true rfl) (fun x3 μ4 => ?_)
          exact sRi (by decide +kernel) (fun h => by cases h)
        · refine sBk (lo' := [(0, vr 12 0), (1, vi a1)]) (st' := [vi 8, vr 12 0]) (μ' := μ) (pc' := 28) [(.aload_n 0, 0, 0, 0, 0), (.bipush 8, 0, 0, 8, 0)] (by decide +kernel) rfl rfl ?_
          refine sCvI oI rfl (ci := 11) (q := (12, 0)) (avs := [vi 8]) (rest := []) (tX11_refuse 8 μ) (by decide) (by decide +kernel) lk_11_110 yv_X11_refuse rfl (by decide) rfl rfl rfl (Nat.le_of_ble_eq_true rfl) (fun x5 μ6 => ?_)
          exact sRi (by decide +kernel) (fun h => by cases h)
      · refine sWk (lo' := [(0, vr 12 0)]) [0] rfl ?_
        exact X11_lived_J9_ok μ
/-! ClockRiver.mean -/
def X11_mean_J33 (μ : sM) : Option (Int32 × sM) :=
  bI (X11_deny 5 μ) fun x1 μ2 =>
    if x1 = 0 ∨ x1 = 1 then some (x1, μ2) else none
theorem X11_mean_J33_ok (μ : sM) : sOk 11 cX11_mean 7 7 true 33 [(0, vr 12 0)] [] μ (oI (X11_mean_J33 μ)) := by
  unfold X11_mean_J33
  refine sBk (lo' := [(0, vr 12 0)]) (st' := [vi 5, vr 12 0]) (μ' := μ) (pc' := 35) [(.aload_n 0, 0, 0, 0, 0), (.iconst 5, 0, 0, 5, 0)] (by decide +kernel) rfl rfl ?_
  refine sCvI oI rfl (ci := 11) (q := (12, 0)) (avs := [vi 5]) (rest := []) (tX11_deny 5 μ) (by decide) (by decide +kernel) lk_11_91 yv_X11_deny rfl (by decide) rfl rfl rfl (Nat.le_of_ble_eq_true rfl) (fun x1 μ2 => ?_)
  exact sCk oI rfl (fun h => sRi (by decide +kernel) (fun _ => h))
def X11_mean_L61 : Nat → Int32 → Int32 → Int64 → Int32 → sM → Option (Int32 × sM)
  | 0, _, _, _, _, _ => none
  | n + 1, v1, v2, v3, v5, μ =>
    if v2 ≤ v5 then
      bV (X11_tellFraction v3 (Int32.toInt64 v2) μ) fun μ2 =>
        bI (X11_grant μ2) fun x3 μ4 =>
          if x3 = 0 ∨ x3 = 1 then some (x3, μ4) else none
    else
      bA (X0_copyOf 0 μ) fun x5 μ6 =>
        bV (X1_run 1 x5 0 (v1 + v5) μ6) fun μ8 =>
          bI (X2_allGround x5 μ8) fun x9 μ10 =>
            X11_mean_L61 n v1 v2 (v3 + (Int32.toInt64 x9)) (v5 + 1) μ10
theorem X11_mean_L61_ok : ∀ (n : Nat) (v1 : Int32) (v2 : Int32) (v3 : Int64) (v5 : Int32) (μ : sM), sOk 11 cX11_mean 7 7 true 61 [(0, vr 12 0), (1, vi v1), (2, vi v2), (3, vl v3), (5, vi v5)] [] μ (oI (X11_mean_L61 n v1 v2 v3 v5 μ)) := by
  intro n
  induction n with
  | zero =>
    intros
    exact sNo
  | succ n ih =>
    intro v1 v2 v3 v5 μ
    unfold X11_mean_L61
    refine sBk (lo' := [(0, vr 12 0), (1, vi v1), (2, vi v2), (3, vl v3), (5, vi v5)]) (st' := [vi v2, vi v5]) (μ' := μ) (pc' := 64) [(.iload 5, 0, 0, 0, 0), (.iload_n 2, 0, 0, 0, 0)] (by decide +kernel) rfl rfl ?_
    refine sIc_ge oI (off := 51) (tgt := 115) (by decide +kernel) (by decide) (fun _ => ?_) (fun _ => ?_)
    · refine sBk (lo' := [(0, vr 12 0), (1, vi v1), (2, vi v2), (3, vl v3), (5, vi v5)]) (st' := [vl (Int32.toInt64 v2), vl v3, vr 12 0]) (μ' := μ) (pc' := 119) [(.aload_n 0, 0, 0, 0, 0), (.lload_n 3, 0, 0, 0, 0), (.iload_n 2, 0, 0, 0, 0), (.i2l, 0, 0, 0, 0)] (by decide +kernel) rfl rfl ?_
      refine sCvV oI rfl (ci := 11) (q := (12, 0)) (avs := [vl v3, vl (Int32.toInt64 v2)]) (rest := []) (tX11_tellFraction v3 (Int32.toInt64 v2) μ) (by decide) (by decide +kernel) lk_11_376 yv_X11_tellFraction rfl (by decide) rfl rfl rfl (Nat.le_of_ble_eq_true rfl) (fun μ2 => ?_)
      refine sBk (lo' := [(0, vr 12 0), (1, vi v1), (2, vi v2), (3, vl v3), (5, vi v5)]) (st' := [vr 12 0]) (μ' := μ2) (pc' := 123) [(.aload_n 0, 0, 0, 0, 0)] (by decide +kernel) rfl rfl ?_
      refine sCvI oI rfl (ci := 11) (q := (12, 0)) (avs := []) (rest := []) (tX11_grant μ2) (by decide) (by decide +kernel) lk_11_98 yv_X11_grant rfl (by decide) rfl rfl rfl (Nat.le_of_ble_eq_true rfl) (fun x3 μ4 => ?_)
      exact sCk oI rfl (fun h => sRi (by decide +kernel) (fun _ => h))
    · refine sBk (lo' := [(0, vr 12 0), (1, vi v1), (2, vi v2), (3, vl v3), (5, vi v5)]) (st' := [vr 5 0, vr 1 0]) (μ' := μ) (pc' := 75) [(.aload_n 0, 0, 0, 0, 0), (.getfield 66, 11, 12, 0, 0), (.aload_n 0, 0, 0, 0, 0), (.getfield 16, 11, 4, 0, 0)] (by decide +kernel) rfl rfl ?_
      refine sCvA oI rfl (ci := 0) (q := (1, 0)) (avs := [vr 5 0]) (rest := []) (tX0_copyOf 0 μ) (by decide) (by decide +kernel) lk_11_398 yv_X0_copyOf rfl (by decide) rfl rfl rfl (Nat.le_of_ble_eq_true rfl) (fun x5 μ6 => ?_)
      refine sBk (lo' := [(6, vr 5 x5), (0, vr 12 0), (1, vi v1), (2, vi v2), (3, vl v3), (5, vi v5)]) (st' := [vi (v1 + v5), vr 9 0, vr 5 x5, vr 2 1]) (μ' := μ6) (pc' := 94) [(.astore 6, 0, 0, 0, 0), (.aload_n 0, 0, 0, 0, 0), (.getfield 77, 11, 14, 0, 0), (.aload 6, 0, 0, 0, 0), (.aload_n 0, 0, 0, 0, 0), (.getfield 23, 11, 5, 0, 0), (.iload_n 1, 0, 0, 0, 0), (.iload 5, 0, 0, 0, 0), (.iadd, 0, 0, 0, 0)] (by decide +kernel) rfl rfl ?_
      refine sCvV oI rfl (ci := 1) (q := (2, 1)) (avs := [vr 5 x5, vr 9 0, vi (v1 + v5)]) (rest := []) (tX1_run 1 x5 0 (v1 + v5) μ6) (by decide) (by decide +kernel) lk_11_389 yv_X1_run rfl (by decide) rfl rfl rfl (Nat.le_of_ble_eq_true rfl) (fun μ8 => ?_)
      refine sBk (lo' := [(6, vr 5 x5), (0, vr 12 0), (1, vi v1), (2, vi v2), (3, vl v3), (5, vi v5)]) (st' := [vr 3 x5, vl v3]) (μ' := μ8) (pc' := 103) [(.lload_n 3, 0, 0, 0, 0), (.aload 6, 0, 0, 0, 0), (.getfield 217, 4, 9, 0, 0)] (by decide +kernel) rfl rfl ?_
      refine sCvI oI rfl (ci := 2) (q := (3, x5)) (avs := []) (rest := [vl v3]) (tX2_allGround x5 μ8) (by decide) (by decide +kernel) lk_11_373 yv_X2_allGround rfl (by decide) rfl rfl rfl (Nat.le_of_ble_eq_true rfl) (fun x9 μ10 => ?_)
      refine sBk (lo' := [(5, vi (v5 + 1)), (3, vl (v3 + (Int32.toInt64 x9))), (6, vr 5 x5), (0, vr 12 0), (1, vi v1), (2, vi v2)]) (st' := []) (μ' := μ10) (pc' := 112) [(.i2l, 0, 0, 0, 0), (.ladd, 0, 0, 0, 0), (.lstore_n 3, 0, 0, 0, 0), (.iinc 5 1, 0, 0, 1, 0)] (by decide +kernel) rfl rfl ?_
      refine sGt (off := (-51)) (tgt := 61) (by decide +kernel) (by decide) ?_
      refine sWk (lo' := [(0, vr 12 0), (1, vi v1), (2, vi v2), (3, vl (v3 + (Int32.toInt64 x9))), (5, vi (v5 + 1))]) [3, 4, 5, 1, 0] rfl ?_
      exact ih v1 v2 (v3 + (Int32.toInt64 x9)) (v5 + 1) μ10
def X11_mean (a1 : Int32) (a2 : Int32) (μ : sM) : Option (Int32 × sM) :=
  if a1 < 0 then
    X11_mean_J33 μ
  else
    if 9999 < a1 then
      X11_mean_J33 μ
    else
      if a2 < 1 then
        X11_mean_J33 μ
      else
        if 20 < a2 then
          X11_mean_J33 μ
        else
          if ((a1 + a2) - 1) ≤ 9999 then
            if (rI μ 9 0 0) = 0 then
              bI (X11_deny 8 μ) fun x1 μ2 =>
                if x1 = 0 ∨ x1 = 1 then some (x1, μ2) else none
            else
              X11_mean_L61 fuN a1 a2 0 0 μ
          else
            X11_mean_J33 μ
theorem tX11_mean (a1 : Int32) (a2 : Int32) (μ : sM) : sMt yX11_mean cX11_mean 7 (some .boolean) 7 [vr 12 0, vi a1, vi a2] μ (oI (X11_mean a1 a2 μ)) := by
  refine sMt_of (own := 11) (bl := true) (by decide +kernel) rfl (Nat.le_of_ble_eq_true rfl) (fun r ρ h => ?_) ?_
  · obtain ⟨q, -, hq⟩ := Option.map_eq_some_iff.mp h
    cases hq
    exact Or.inr ⟨rfl, rfl⟩
  · unfold X11_mean
    show sOk 11 cX11_mean 7 7 true 0 [(0, vr 12 0), (1, vi a1), (2, vi a2)] [] μ _
    refine sBk (lo' := [(0, vr 12 0), (1, vi a1), (2, vi a2)]) (st' := [vi a1]) (μ' := μ) (pc' := 1) [(.iload_n 1, 0, 0, 0, 0)] (by decide +kernel) rfl rfl ?_
    refine sIf_lt oI (off := 32) (tgt := 33) (by decide +kernel) (by decide) (fun _ => ?_) (fun _ => ?_)
    · refine sWk (lo' := [(0, vr 12 0)]) [0] rfl ?_
      exact X11_mean_J33_ok μ
    · refine sBk (lo' := [(0, vr 12 0), (1, vi a1), (2, vi a2)]) (st' := [vi 9999, vi a1]) (μ' := μ) (pc' := 8) [(.iload_n 1, 0, 0, 0, 0), (.sipush 9999, 0, 0, 9999, 0)] (by decide +kernel) rfl rfl ?_
      refine sIc_gt oI (off := 25) (tgt := 33) (by decide +kernel) (by decide) (fun _ => ?_) (fun _ => ?_)
      · refine sWk (lo' := [(0, vr 12 0)]) [0] rfl ?_
        exact X11_mean_J33_ok μ
      · refine sBk (lo' := [(0, vr 12 0), (1, vi a1), (2, vi a2)]) (st' := [vi 1, vi a2]) (μ' := μ) (pc' := 13) [(.iload_n 2, 0, 0, 0, 0), (.iconst 1, 0, 0, 1, 0)] (by decide +kernel) rfl rfl ?_
        refine sIc_lt oI (off := 20) (tgt := 33) (by decide +kernel) (by decide) (fun _ => ?_) (fun _ => ?_)
        · refine sWk (lo' := [(0, vr 12 0)]) [0] rfl ?_
          exact X11_mean_J33_ok μ
        · refine sBk (lo' := [(0, vr 12 0), (1, vi a1), (2, vi a2)]) (st' := [vi 20, vi a2]) (μ' := μ) (pc' := 19) [(.iload_n 2, 0, 0, 0, 0), (.bipush 20, 0, 0, 20, 0)] (by decide +kernel) rfl rfl ?_
          refine sIc_gt oI (off := 14) (tgt := 33) (by decide +kernel) (by decide) (fun _ => ?_) (fun _ => ?_)
          · refine sWk (lo' := [(0, vr 12 0)]) [0] rfl ?_
            exact X11_mean_J33_ok μ
          · refine sBk (lo' := [(0, vr 12 0), (1, vi a1), (2, vi a2)]) (st' := [vi 9999, vi ((a1 + a2) - 1)]) (μ' := μ) (pc' := 30) [(.iload_n 1, 0, 0, 0, 0), (.iload_n 2, 0, 0, 0, 0), (.iadd, 0, 0, 0, 0), (.iconst 1, 0, 0, 1, 0), (.isub, 0, 0, 0, 0), (.sipush 9999, 0, 0, 9999, 0)] (by decide +kernel) rfl rfl ?_
            refine sIc_le oI (off := 9) (tgt := 39) (by decide +kernel) (by decide) (fun _ => ?_) (fun _ => ?_)
            · refine sBk (lo' := [(0, vr 12 0), (1, vi a1), (2, vi a2)]) (st' := [vi (rI μ 9 0 0)]) (μ' := μ) (pc' := 46) [(.aload_n 0, 0, 0, 0, 0), (.getfield 23, 11, 5, 0, 0), (.getfield 386, 8, 0, 0, 0)] (by decide +kernel) rfl rfl ?_
              refine sIf_ne oI (off := 10) (tgt := 56) (by decide +kernel) (by decide) (fun _ => ?_) (fun _ => ?_)
              · refine sBk (lo' := [(5, vi 0), (3, vl 0), (0, vr 12 0), (1, vi a1), (2, vi a2)]) (st' := []) (μ' := μ) (pc' := 61) [(.lconst 0, 0, 0, 0, 0), (.lstore_n 3, 0, 0, 0, 0), (.iconst 0, 0, 0, 0, 0), (.istore 5, 0, 0, 0, 0)] (by decide +kernel) rfl rfl ?_
                refine sWk (lo' := [(0, vr 12 0), (1, vi a1), (2, vi a2), (3, vl 0), (5, vi 0)]) [2, 3, 4, 1, 0] rfl ?_
                exact X11_mean_L61_ok fuN a1 a2 0 0 μ
              · refine sBk (lo' := [(0, vr 12 0), (1, vi a1), (2, vi a2)]) (st' := [vi 8, vr 12 0]) (μ' := μ) (pc' := 52) [(.aload_n 0, 0, 0, 0, 0), (.bipush 8, 0, 0, 8, 0)] (by decide +kernel) rfl rfl ?_
                refine sCvI oI rfl (ci := 11) (q := (12, 0)) (avs := [vi 8]) (rest := []) (tX11_deny 8 μ) (by decide) (by decide +kernel) lk_11_91 yv_X11_deny rfl (by decide) rfl rfl rfl (Nat.le_of_ble_eq_true rfl) (fun x1 μ2 => ?_)
                exact sCk oI rfl (fun h => sRi (by decide +kernel) (fun _ => h))
            · refine sWk (lo' := [(0, vr 12 0)]) [0] rfl ?_
              exact X11_mean_J33_ok μ
/-! ClockRiver.mark -/
def X11_mark (μ : sM) : Option (Int32 × sM) :=
  if (rI μ 12 0 3) < 3 then
    if inb (rI μ 12 0 3) 3 = true then
      bV (X4_copyFrom (1 + (ix (rI μ 12 0 3))) 0 μ) fun μ2 =>
        if inb (rI μ2 12 0 3) 3 = true then
          bV (X8_copyFrom (1 + (ix (rI μ2 12 0 3))) 0 μ2) fun μ4 =>
            bI (X11_give ((rI μ4 12 0 3) + 1) (wI μ4 12 0 3 ((rI μ4 12 0 3) + 1))) fun x5 μ6 =>
              some (x5, μ6)
        else none
    else none
  else
    bI (X11_refuse 7 μ) fun x7 μ8 =>
      some (x7, μ8)
theorem tX11_mark (μ : sM) : sMt yX11_mark cX11_mark 1 (some .int) 3 [vr 12 0] μ (oI (X11_mark μ)) := by
  refine sMt_of (own := 11) (bl := false) (by decide +kernel) rfl (Nat.le_of_ble_eq_true rfl) (fun r ρ h => ?_) ?_
  · obtain ⟨q, -, hq⟩ := Option.map_eq_some_iff.mp h
    cases hq
    exact Or.inl rfl
  · unfold X11_mark
    show sOk 11 cX11_mark 1 3 false 0 [(0, vr 12 0)] [] μ _
    refine sBk (lo' := [(0, vr 12 0)]) (st' := [vi 3, vi (rI μ 12 0 3)]) (μ' := μ) (pc' := 5) [(.aload_n 0, 0, 0, 0, 0), (.getfield 402, 11, 3, 0, 0), (.iconst 3, 0, 0, 3, 0)] (by decide +kernel) rfl rfl ?_
    refine sIc_lt oI (off := 10) (tgt := 15) (by decide +kernel) (by decide) (fun _ => ?_) (fun _ => ?_)
    · refine sBk (lo' := [(0, vr 12 0)]) (st' := [vi (rI μ 12 0 3), vr 55 0]) (μ' := μ) (pc' := 23) [(.aload_n 0, 0, 0, 0, 0), (.getfield 55, 11, 10, 0, 0), (.aload_n 0, 0, 0, 0, 0), (.getfield 402, 11, 3, 0, 0)] (by decide +kernel) rfl rfl ?_
      refine sS_aal oI rfl (n := 3) (j := (ix (rI μ 12 0 3))) (by decide +kernel) rfl rfl rfl (fun _ => ?_)
      refine sBk (lo' := [(0, vr 12 0)]) (st' := [vr 5 0, vr 5 (1 + (ix (rI μ 12 0 3)))]) (μ' := μ) (pc' := 28) [(.aload_n 0, 0, 0, 0, 0), (.getfield 16, 11, 4, 0, 0)] (by decide +kernel) rfl rfl ?_
      refine sCvV oI rfl (ci := 4) (q := (5, (1 + (ix (rI μ 12 0 3))))) (avs := [vr 5 0]) (rest := []) (tX4_copyFrom (1 + (ix (rI μ 12 0 3))) 0 μ) (by decide) (by decide +kernel) lk_11_153 yv_X4_copyFrom rfl (by decide) rfl rfl rfl (Nat.le_of_ble_eq_true rfl) (fun μ2 => ?_)
      refine sBk (lo' := [(0, vr 12 0)]) (st' := [vi (rI μ2 12 0 3), vr 56 0]) (μ' := μ2) (pc' := 39) [(.aload_n 0, 0, 0, 0, 0), (.getfield 59, 11, 11, 0, 0), (.aload_n 0, 0, 0, 0, 0), (.getfield 402, 11, 3, 0, 0)] (by decide +kernel) rfl rfl ?_
      refine sS_aal oI rfl (n := 3) (j := (ix (rI μ2 12 0 3))) (by decide +kernel) rfl rfl rfl (fun _ => ?_)
      refine sBk (lo' := [(0, vr 12 0)]) (st' := [vr 9 0, vr 9 (1 + (ix (rI μ2 12 0 3)))]) (μ' := μ2) (pc' := 44) [(.aload_n 0, 0, 0, 0, 0), (.getfield 23, 11, 5, 0, 0)] (by decide +kernel) rfl rfl ?_
      refine sCvV oI rfl (ci := 8) (q := (9, (1 + (ix (rI μ2 12 0 3))))) (avs := [vr 9 0]) (rest := []) (tX8_copyFrom (1 + (ix (rI μ2 12 0 3))) 0 μ2) (by decide) (by decide +kernel) lk_11_178 yv_X8_copyFrom rfl (by decide) rfl rfl rfl (Nat.le_of_ble_eq_true rfl) (fun μ4 => ?_)
      refine sBk (lo' := [(0, vr 12 0)]) (st' := [vi ((rI μ4 12 0 3) + 1), vr 12 0]) (μ' := wI μ4 12 0 3 ((rI μ4 12 0 3) + 1)) (pc' := 62) [(.aload_n 0, 0, 0, 0, 0), (.dup, 0, 0, 0, 0), (.getfield 402, 11, 3, 0, 0), (.iconst 1, 0, 0, 1, 0), (.iadd, 0, 0, 0, 0), (.putfield 402, 11, 3, 0, 0), (.aload_n 0, 0, 0, 0, 0), (.aload_n 0, 0, 0, 0, 0), (.getfield 402, 11, 3, 0, 0)] (by decide +kernel) rfl rfl ?_
      refine sCvI oI rfl (ci := 11) (q := (12, 0)) (avs := [vi ((rI μ4 12 0 3) + 1)]) (rest := []) (tX11_give ((rI μ4 12 0 3) + 1) (wI μ4 12 0 3 ((rI μ4 12 0 3) + 1))) (by decide) (by decide +kernel) lk_11_169 yv_X11_give rfl (by decide) rfl rfl rfl (Nat.le_of_ble_eq_true rfl) (fun x5 μ6 => ?_)
      exact sRi (by decide +kernel) (fun h => by cases h)
    · refine sBk (lo' := [(0, vr 12 0)]) (st' := [vi 7, vr 12 0]) (μ' := μ) (pc' := 11) [(.aload_n 0, 0, 0, 0, 0), (.bipush 7, 0, 0, 7, 0)] (by decide +kernel) rfl rfl ?_
      refine sCvI oI rfl (ci := 11) (q := (12, 0)) (avs := [vi 7]) (rest := []) (tX11_refuse 7 μ) (by decide) (by decide +kernel) lk_11_110 yv_X11_refuse rfl (by decide) rfl rfl rfl (Nat.le_of_ble_eq_true rfl) (fun x7 μ8 => ?_)
      exact sRi (by decide +kernel) (fun h => by cases h)
/-! ClockRiver.back -/
def X11_back (μ : sM) : Option (Int32 × sM) :=
  if 0 < (rI μ 12 0 3) then
    if inb ((rI μ 12 0 3) - 1) 3 = true then
      bV (X4_copyFrom 0 (1 + (ix ((rI μ 12 0 3) - 1))) (wI μ 12 0 3 ((rI μ 12 0 3) - 1))) fun μ2 =>
        if inb (rI μ2 12 0 3) 3 = true then
          bV (X8_copyFrom 0 (1 + (ix (rI μ2 12 0 3))) μ2) fun μ4 =>
            bI (X11_give (rI μ4 12 0 3) μ4) fun x5 μ6 =>
              some (x5, μ6)
        else none
    else none
  else
    bI (X11_refuse 8 μ) fun x7 μ8 =>
      some (x7, μ8)
theorem tX11_back (μ : sM) : sMt yX11_back cX11_back 1 (some .int) 3 [vr 12 0] μ (oI (X11_back μ)) := by
  refine sMt_of (own := 11) (bl := false) (by decide +kernel) rfl (Nat.le_of_ble_eq_true rfl) (fun r ρ h => ?_) ?_
  · obtain ⟨q, -, hq⟩ := Option.map_eq_some_iff.mp h
    cases hq
    exact Or.inl rfl
  · unfold X11_back
    show sOk 11 cX11_back 1 3 false 0 [(0, vr 12 0)] [] μ _
    refine sBk (lo' := [(0, vr 12 0)]) (st' := [vi (rI μ 12 0 3)]) (μ' := μ) (pc' := 4) [(.aload_n 0, 0, 0, 0, 0), (.getfield 402, 11, 3, 0, 0)] (by decide +kernel) rfl rfl ?_
    refine sIf_gt oI (off := 10) (tgt := 14) (by decide +kernel) (by decide) (fun _ => ?_) (fun _ => ?_)
    · refine sBk (lo' := [(0, vr 12 0)]) (st' := [vi ((rI μ 12 0 3) - 1), vr 55 0, vr 5 0]) (μ' := wI μ 12 0 3 ((rI μ 12 0 3) - 1)) (pc' := 36) [(.aload_n 0, 0, 0, 0, 0), (.dup, 0, 0, 0, 0), (.getfield 402, 11, 3, 0, 0), (.iconst 1, 0, 0, 1, 0), (.isub, 0, 0, 0, 0), (.putfield 402, 11, 3, 0, 0), (.aload_n 0, 0, 0, 0, 0), (.getfield 16, 11, 4, 0, 0), (.aload_n 0, 0, 0, 0, 0), (.getfield 55, 11, 10, 0, 0), (.aload_n 0, 0, 0, 0, 0), (.getfield 402, 11, 3, 0, 0)] (by decide +kernel) rfl rfl ?_
      refine sS_aal oI rfl (n := 3) (j := (ix ((rI μ 12 0 3) - 1))) (by decide +kernel) rfl rfl rfl (fun _ => ?_)
      refine sCvV oI rfl (ci := 4) (q := (5, 0)) (avs := [vr 5 (1 + (ix ((rI μ 12 0 3) - 1)))]) (rest := []) (tX4_copyFrom 0 (1 + (ix ((rI μ 12 0 3) - 1))) (wI μ 12 0 3 ((rI μ 12 0 3) - 1))) (by decide) (by decide +kernel) lk_11_153 yv_X4_copyFrom rfl (by decide) rfl rfl rfl (Nat.le_of_ble_eq_true rfl) (fun μ2 => ?_)
      refine sBk (lo' := [(0, vr 12 0)]) (st' := [vi (rI μ2 12 0 3), vr 56 0, vr 9 0]) (μ' := μ2) (pc' := 52) [(.aload_n 0, 0, 0, 0, 0), (.getfield 23, 11, 5, 0, 0), (.aload_n 0, 0, 0, 0, 0), (.getfield 59, 11, 11, 0, 0), (.aload_n 0, 0, 0, 0, 0), (.getfield 402, 11, 3, 0, 0)] (by decide +kernel) rfl rfl ?_
      refine sS_aal oI rfl (n := 3) (j := (ix (rI μ2 12 0 3))) (by decide +kernel) rfl rfl rfl (fun _ => ?_)
      refine sCvV oI rfl (ci := 8) (q := (9, 0)) (avs := [vr 9 (1 + (ix (rI μ2 12 0 3)))]) (rest := []) (tX8_copyFrom 0 (1 + (ix (rI μ2 12 0 3))) μ2) (by decide) (by decide +kernel) lk_11_178 yv_X8_copyFrom rfl (by decide) rfl rfl rfl (Nat.le_of_ble_eq_true rfl) (fun μ4 => ?_)
      refine sBk (lo' := [(0, vr 12 0)]) (st' := [vi (rI μ4 12 0 3), vr 12 0]) (μ' := μ4) (pc' := 61) [(.aload_n 0, 0, 0, 0, 0), (.aload_n 0, 0, 0, 0, 0), (.getfield 402, 11, 3, 0, 0)] (by decide +kernel) rfl rfl ?_
      refine sCvI oI rfl (ci := 11) (q := (12, 0)) (avs := [vi (rI μ4 12 0 3)]) (rest := []) (tX11_give (rI μ4 12 0 3) μ4) (by decide) (by decide +kernel) lk_11_169 yv_X11_give rfl (by decide) rfl rfl rfl (Nat.le_of_ble_eq_true rfl) (fun x5 μ6 => ?_)
      exact sRi (by decide +kernel) (fun h => by cases h)
    · refine sBk (lo' := [(0, vr 12 0)]) (st' := [vi 8, vr 12 0]) (μ' := μ) (pc' := 10) [(.aload_n 0, 0, 0, 0, 0), (.bipush 8, 0, 0, 8, 0)] (by decide +kernel) rfl rfl ?_
      refine sCvI oI rfl (ci := 11) (q := (12, 0)) (avs := [vi 8]) (rest := []) (tX11_refuse 8 μ) (by decide) (by decide +kernel) lk_11_110 yv_X11_refuse rfl (by decide) rfl rfl rfl (Nat.le_of_ble_eq_true rfl) (fun x7 μ8 => ?_)
      exact sRi (by decide +kernel) (fun h => by cases h)
