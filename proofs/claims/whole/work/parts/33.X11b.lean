theorem lk_11_238 : Cond.methodLink (kRn 11) 238 yX4_hasWinder ∈ sT := sT_in (n := 1072) (by decide +kernel) rfl
theorem lk_11_262 : Cond.methodLink (kRn 11) 262 yX4_hasHours ∈ sT := sT_in (n := 1084) (by decide +kernel) rfl
theorem lk_11_265 : Cond.methodLink (kRn 11) 265 yX4_passHours ∈ sT := sT_in (n := 1088) (by decide +kernel) rfl
theorem lk_11_268 : Cond.methodLink (kRn 11) 268 yX4_isLawDay ∈ sT := sT_in (n := 1134) (by decide +kernel) rfl
theorem lk_11_271 : Cond.methodLink (kRn 11) 271 yX4_letWind ∈ sT := sT_in (n := 1138) (by decide +kernel) rfl
theorem lk_11_282 : Cond.methodLink (kRn 11) 282 yX3_spill ∈ sT := sT_in (n := 1162) (by decide +kernel) rfl
theorem lk_11_286 : Cond.methodLink (kRn 11) 286 yX11_mostOfRule ∈ sT := sT_in (n := 1167) (by decide +kernel) rfl
theorem lk_11_299 : Cond.methodLink (kRn 11) 299 yX2_add ∈ sT := sT_in (n := 1174) (by decide +kernel) rfl
theorem lk_11_303 : Cond.methodLink (kRn 11) 303 yX11_isTooFar ∈ sT := sT_in (n := 1183) (by decide +kernel) rfl
theorem lk_11_306 : Cond.methodLink (kRn 11) 306 yX0_later ∈ sT := sT_in (n := 1186) (by decide +kernel) rfl
theorem ys_X11_isTooFar : yS yX11_isTooFar cX11_isTooFar 1 (some .boolean) 1 := ⟨⟨sT_in (n := 1185) (by decide +kernel) rfl, sT_in (n := 137) (by decide +kernel) rfl, by decide +kernel, by decide⟩, sT_in (n := 1184) (by decide +kernel) rfl⟩
theorem ys_X11_mostOfRule : yS yX11_mostOfRule cX11_mostOfRule 1 (some .int) 1 := ⟨⟨sT_in (n := 1169) (by decide +kernel) rfl, sT_in (n := 137) (by decide +kernel) rfl, by decide +kernel, by decide⟩, sT_in (n := 1168) (by decide +kernel) rfl⟩
theorem yv_X0_later : yV yX0_later cX0_later 4 (some (.object "ClockRiver$River")) 2 := ⟨⟨sT_in (n := 1189) (by decide +kernel) rfl, sT_in (n := 147) (by decide +kernel) rfl, by decide +kernel, by decide⟩, sT_in (n := 1187) (by decide +kernel) rfl, sT_in (n := 1188) (by decide +kernel) rfl⟩
theorem yv_X4_hasWinder : yV yX4_hasWinder cX4_hasWinder 2 (some .boolean) 1 := ⟨⟨sT_in (n := 1075) (by decide +kernel) rfl, sT_in (n := 138) (by decide +kernel) rfl, by decide +kernel, by decide⟩, sT_in (n := 1073) (by decide +kernel) rfl, sT_in (n := 1074) (by decide +kernel) rfl⟩
/-! ClockRiver.winder -/
def X11_winder (a1 : Int32) (a2 : Int32) (μ : sM) : Option (Int32 × sM) :=
  bI (X4_hasWinder 0 a1 μ) fun x1 μ2 =>
    if x1 = 0 then
      bI (X11_refuse 2 μ2) fun x13 μ14 =>
        some (x13, μ14)
    else
      if a2 = 0 then
        if inb a1 6 = true then
          bI (X11_give (rI μ2 51 0 (ix a1)) μ2) fun x3 μ4 =>
            some (x3, μ4)
        else none
      else if a2 = 1 then
        if inb a1 6 = true then
          bI (X11_give (rI μ2 52 0 (ix a1)) μ2) fun x5 μ6 =>
            some (x5, μ6)
        else none
      else if a2 = 2 then
        if inb a1 6 = true then
          bI (X11_give (rI μ2 53 0 (ix a1)) μ2) fun x7 μ8 =>
            some (x7, μ8)
        else none
      else if a2 = 3 then
        if inb a1 6 = true then
          bI (X11_give (rI μ2 54 0 (ix a1)) μ2) fun x9 μ10 =>
            some (x9, μ10)
        else none
      else
        bI (X11_refuse 5 μ2) fun x11 μ12 =>
          some (x11, μ12)
theorem tX11_winder (a1 : Int32) (a2 : Int32) (μ : sM) : sMt yX11_winder cX11_winder 3 (some .int) 2 [vr 12 0, vi a1, vi a2] μ (oI (X11_winder a1 a2 μ)) := by
  refine sMt_of (own := 11) (bl := false) (by decide +kernel) rfl (Nat.le_of_ble_eq_true rfl) (fun r ρ h => ?_) ?_
  · obtain ⟨q, -, hq⟩ := Option.map_eq_some_iff.mp h
    cases hq
    exact Or.inl rfl
  · unfold X11_winder
    show sOk 11 cX11_winder 3 2 false 0 [(0, vr 12 0), (1, vi a1), (2, vi a2)] [] μ _
    refine sBk (lo' := [(0, vr 12 0), (1, vi a1), (2, vi a2)]) (st' := [vi a1, vr 5 0]) (μ' := μ) (pc' := 5) [(.aload_n 0, 0, 0, 0, 0), (.getfield 16, 11, 4, 0, 0), (.iload_n 1, 0, 0, 0, 0)] (by decide +kernel) rfl rfl ?_
    refine sCvI oI rfl (ci := 4) (q := (5, 0)) (avs := [vi a1]) (rest := []) (tX4_hasWinder 0 a1 μ) (by decide) (by decide +kernel) lk_11_238 yv_X4_hasWinder rfl (by decide) rfl rfl rfl (Nat.le_of_ble_eq_true rfl) (fun x1 μ2 => ?_)
    refine sIf_ne oI (off := 9) (tgt := 17) (by decide +kernel) (by decide) (fun _ => ?_) (fun _ => ?_)
    · refine sBk (lo' := [(0, vr 12 0), (1, vi a1), (2, vi a2)]) (st' := [vi a2]) (μ' := μ2) (pc' := 18) [(.iload_n 2, 0, 0, 0, 0)] (by decide +kernel) rfl rfl ?_
      refine sTs (ps := [(0, 48), (1, 65), (2, 82), (3, 99)]) (df := 116) (by decide +kernel) ?_
      refine sSc oI (fun _ => ?_) (fun _ => ?_)
      · refine sBk (lo' := [(0, vr 12 0), (1, vi a1), (2, vi a2)]) (st' := [vi a1, vr 51 0, vr 12 0]) (μ' := μ2) (pc' := 60) [(.aload_n 0, 0, 0, 0, 0), (.aload_n 0, 0, 0, 0, 0), (.getfield 16, 11, 4, 0, 0), (.getfield 241, 4, 10, 0, 0), (.getfield 245, 10, 2, 0, 0), (.iload_n 1, 0, 0, 0, 0)] (by decide +kernel) rfl rfl ?_
        refine sS_ial oI rfl (n := 6) (j := (ix a1)) (by decide +kernel) rfl rfl rfl (fun _ => ?_)
        refine sCvI oI rfl (ci := 11) (q := (12, 0)) (avs := [vi (rI μ2 51 0 (ix a1))]) (rest := []) (tX11_give (rI μ2 51 0 (ix a1)) μ2) (by decide) (by decide +kernel) lk_11_169 yv_X11_give rfl (by decide) rfl rfl rfl (Nat.le_of_ble_eq_true rfl) (fun x3 μ4 => ?_)
        exact sRi (by decide +kernel) (fun h => by cases h)
      refine sSc oI (fun _ => ?_) (fun _ => ?_)
      · refine sBk (lo' := [(0, vr 12 0), (1, vi a1), (2, vi a2)]) (st' := [vi a1, vr 52 0, vr 12 0]) (μ' := μ2) (pc' := 77) [(.aload_n 0, 0, 0, 0, 0), (.aload_n 0, 0, 0, 0, 0), (.getfield 16, 11, 4, 0, 0), (.getfield 241, 4, 10, 0, 0), (.getfield 250, 10, 3, 0, 0), (.iload_n 1, 0, 0, 0, 0)] (by decide +kernel) rfl rfl ?_
        refine sS_ial oI rfl (n := 6) (j := (ix a1)) (by decide +kernel) rfl rfl rfl (fun _ => ?_)
        refine sCvI oI rfl (ci := 11) (q := (12, 0)) (avs := [vi (rI μ2 52 0 (ix a1))]) (rest := []) (tX11_give (rI μ2 52 0 (ix a1)) μ2) (by decide) (by decide +kernel) lk_11_169 yv_X11_give rfl (by decide) rfl rfl rfl (Nat.le_of_ble_eq_true rfl) (fun x5 μ6 => ?_)
        exact sRi (by decide +kernel) (fun h => by cases h)
      refine sSc oI (fun _ => ?_) (fun _ => ?_)
      · refine sBk (lo' := [(0, vr 12 0), (1, vi a1), (2, vi a2)]) (st' := [vi a1, vr 53 0, vr 12 0]) (μ' := μ2) (pc' := 94) [(.aload_n 0, 0, 0, 0, 0), (.aload_n 0, 0, 0, 0, 0), (.getfield 16, 11, 4, 0, 0), (.getfield 241, 4, 10, 0, 0), (.getfield 253, 10, 4, 0, 0), (.iload_n 1, 0, 0, 0, 0)] (by decide +kernel) rfl rfl ?_
        refine sS_ial oI rfl (n := 6) (j := (ix a1)) (by decide +kernel) rfl rfl rfl (fun _ => ?_)
        refine sCvI oI rfl (ci := 11) (q := (12, 0)) (avs := [vi (rI μ2 53 0 (ix a1))]) (rest := []) (tX11_give (rI μ2 53 0 (ix a1)) μ2) (by decide) (by decide +kernel) lk_11_169 yv_X11_give rfl (by decide) rfl rfl rfl (Nat.le_of_ble_eq_true rfl) (fun x7 μ8 => ?_)
        exact sRi (by decide +kernel) (fun h => by cases h)
      refine sSc oI (fun _ => ?_) (fun _ => ?_)
      · refine sBk (lo' := [(0, vr 12 0), (1, vi a1), (2, vi a2)]) (st' := [vi a1, vr 54 0, vr 12 0]) (μ' := μ2) (pc' := 111) [(.aload_n 0, 0, 0, 0, 0), (.aload_n 0, 0, 0, 0, 0), (.getfield 16, 11, 4, 0, 0), (.getfield 241, 4, 10, 0, 0), (.getfield 256, 10, 5, 0, 0), (.iload_n 1, 0, 0, 0, 0)] (by decide +kernel) rfl rfl ?_
        refine sS_ial oI rfl (n := 6) (j := (ix a1)) (by decide +kernel) rfl rfl rfl (fun _ => ?_)
        refine sCvI oI rfl (ci := 11) (q := (12, 0)) (avs := [vi (rI μ2 54 0 (ix a1))]) (rest := []) (tX11_give (rI μ2 54 0 (ix a1)) μ2) (by decide) (by decide +kernel) lk_11_169 yv_X11_give rfl (by decide) rfl rfl rfl (Nat.le_of_ble_eq_true rfl) (fun x9 μ10 => ?_)
        exact sRi (by decide +kernel) (fun h => by cases h)
      refine sSd ?_
      refine sBk (lo' := [(0, vr 12 0), (1, vi a1), (2, vi a2)]) (st' := [vi 5, vr 12 0]) (μ' := μ2) (pc' := 118) [(.aload_n 0, 0, 0, 0, 0), (.iconst 5, 0, 0, 5, 0)] (by decide +kernel) rfl rfl ?_
      refine sCvI oI rfl (ci := 11) (q := (12, 0)) (avs := [vi 5]) (rest := []) (tX11_refuse 5 μ2) (by decide) (by decide +kernel) lk_11_110 yv_X11_refuse rfl (by decide) rfl rfl rfl (Nat.le_of_ble_eq_true rfl) (fun x11 μ12 => ?_)
      exact sRi (by decide +kernel) (fun h => by cases h)
    · refine sBk (lo' := [(0, vr 12 0), (1, vi a1), (2, vi a2)]) (st' := [vi 2, vr 12 0]) (μ' := μ2) (pc' := 13) [(.aload_n 0, 0, 0, 0, 0), (.iconst 2, 0, 0, 2, 0)] (by decide +kernel) rfl rfl ?_
      refine sCvI oI rfl (ci := 11) (q := (12, 0)) (avs := [vi 2]) (rest := []) (tX11_refuse 2 μ2) (by decide) (by decide +kernel) lk_11_110 yv_X11_refuse rfl (by decide) rfl rfl rfl (Nat.le_of_ble_eq_true rfl) (fun x13 μ14 => ?_)
      exact sRi (by decide +kernel) (fun h => by cases h)
/-! ClockRiver.copyStored -/
def X11_copyStored_L62 : Nat → Int32 → Int32 → Int32 → sM → Option (Int32 × sM)
  | 0, _, _, _, _ => none
  | n + 1, v1, v2, v3, μ =>
    if v2 ≤ v3 then
      bI (X11_give v2 μ) fun x1 μ2 =>
        some (x1, μ2)
    else
      if inb v3 6 = true then
        bV (X7_put v1 v3 (Int32.toInt64 (rI μ 31 0 (ix v3))) μ) fun μ4 =>
          X11_copyStored_L62 n v1 v2 (v3 + 1) μ4
      else none
theorem X11_copyStored_L62_ok : ∀ (n : Nat) (v1 : Int32) (v2 : Int32) (v3 : Int32) (μ : sM), sOk 11 cX11_copyStored 4 3 false 62 [(0, vr 12 0), (1, vi v1), (2, vi v2), (3, vi v3)] [] μ (oI (X11_copyStored_L62 n v1 v2 v3 μ)) := by
  intro n
  induction n with
  | zero =>
    intros
    exact sNo
  | succ n ih =>
    intro v1 v2 v3 μ
    unfold X11_copyStored_L62
    refine sBk (lo' := [(0, vr 12 0), (1, vi v1), (2, vi v2), (3, vi v3)]) (st' := [vi v2, vi v3]) (μ' := μ) (pc' := 64) [(.iload_n 3, 0, 0, 0, 0), (.iload_n 2, 0, 0, 0, 0)] (by decide +kernel) rfl rfl ?_
    refine sIc_ge oI (off := 31) (tgt := 95) (by decide +kernel) (by decide) (fun _ => ?_) (fun _ => ?_)
    · refine sBk (lo' := [(0, vr 12 0), (1, vi v1), (2, vi v2), (3, vi v3)]) (st' := [vi v2, vr 12 0]) (μ' := μ) (pc' := 97) [(.aload_n 0, 0, 0, 0, 0), (.iload_n 2, 0, 0, 0, 0)] (by decide +kernel) rfl rfl ?_
      refine sCvI oI rfl (ci := 11) (q := (12, 0)) (avs := [vi v2]) (rest := []) (tX11_give v2 μ) (by decide) (by decide +kernel) lk_11_169 yv_X11_give rfl (by decide) rfl rfl rfl (Nat.le_of_ble_eq_true rfl) (fun x1 μ2 => ?_)
      exact sRi (by decide +kernel) (fun h => by cases h)
    · refine sBk (lo' := [(0, vr 12 0), (1, vi v1), (2, vi v2), (3, vi v3)]) (st' := [vi v3, vr 31 0, vi v3, vi v1, vr 8 0]) (μ' := μ) (pc' := 84) [(.aload_n 0, 0, 0, 0, 0), (.getfield 30, 11, 6, 0, 0), (.iload_n 1, 0, 0, 0, 0), (.iload_n 3, 0, 0, 0, 0), (.aload_n 0, 0, 0, 0, 0), (.getfield 16, 11, 4, 0, 0), (.getfield 160, 4, 8, 0, 0), (.getfield 209, 3, 4, 0, 0), (.iload_n 3, 0, 0, 0, 0)] (by decide +kernel) rfl rfl ?_
      refine sS_ial oI rfl (n := 6) (j := (ix v3)) (by decide +kernel) rfl rfl rfl (fun _ => ?_)
      refine sBk (lo' := [(0, vr 12 0), (1, vi v1), (2, vi v2), (3, vi v3)]) (st' := [vl (Int32.toInt64 (rI μ 31 0 (ix v3))), vi v3, vi v1, vr 8 0]) (μ' := μ) (pc' := 86) [(.i2l, 0, 0, 0, 0)] (by decide +kernel) rfl rfl ?_
      refine sCvV oI rfl (ci := 7) (q := (8, 0)) (avs := [vi v1, vi v3, vl (Int32.toInt64 (rI μ 31 0 (ix v3)))]) (rest := []) (tX7_put v1 v3 (Int32.toInt64 (rI μ 31 0 (ix v3))) μ) (by decide) (by decide +kernel) lk_11_106 yv_X7_put rfl (by decide) rfl rfl rfl (Nat.le_of_ble_eq_true rfl) (fun μ4 => ?_)
      refine sBk (lo' := [(3, vi (v3 + 1)), (0, vr 12 0), (1, vi v1), (2, vi v2)]) (st' := []) (μ' := μ4) (pc' := 92) [(.iinc 3 1, 0, 0, 1, 0)] (by decide +kernel) rfl rfl ?_
      refine sGt (off := (-30)) (tgt := 62) (by decide +kernel) (by decide) ?_
      refine sWk (lo' := [(0, vr 12 0), (1, vi v1), (2, vi v2), (3, vi (v3 + 1))]) [1, 2, 3, 0] rfl ?_
      exact ih v1 v2 (v3 + 1) μ4
def X11_copyStored (a1 : Int32) (μ : sM) : Option (Int32 × sM) :=
  bI (X7_isTray a1 μ) fun x1 μ2 =>
    if x1 = 0 then
      bI (X11_refuse 1 μ2) fun x9 μ10 =>
        some (x9, μ10)
    else
      bI (X7_isMissing a1 μ2) fun x3 μ4 =>
        if x3 = 0 then
          if inb a1 4 = true then
            if (rI μ4 4 0 0) ≤ (rI μ4 42 0 (ix a1)) then
              X11_copyStored_L62 fuN a1 (rI μ4 4 0 0) 0 μ4
            else
              bI (X11_refuse 4 μ4) fun x5 μ6 =>
                some (x5, μ6)
          else none
        else
          bI (X11_refuse 3 μ4) fun x7 μ8 =>
            some (x7, μ8)
theorem tX11_copyStored (a1 : Int32) (μ : sM) : sMt yX11_copyStored cX11_copyStored 4 (some .int) 3 [vr 12 0, vi a1] μ (oI (X11_copyStored a1 μ)) := by
  refine sMt_of (own := 11) (bl := false) (by decide +kernel) rfl (Nat.le_of_ble_eq_true rfl) (fun r ρ h => ?_) ?_
  · obtain ⟨q, -, hq⟩ := Option.map_eq_some_iff.mp h
    cases hq
    exact Or.inl rfl
  · unfold X11_copyStored
    show sOk 11 cX11_copyStored 4 3 false 0 [(0, vr 12 0), (1, vi a1)] [] μ _
    refine sBk (lo' := [(0, vr 12 0), (1, vi a1)]) (st' := [vi a1]) (μ' := μ) (pc' := 1) [(.iload_n 1, 0, 0, 0, 0)] (by decide +kernel) rfl rfl ?_
    refine sCsI oI rfl (avs := [vi a1]) (rest := []) (tX7_isTray a1 μ) (by decide) (by decide +kernel) lk_11_87 ys_X7_isTray rfl rfl (Nat.le_of_ble_eq_true rfl) (fun x1 μ2 => ?_)
    refine sIf_ne oI (off := 9) (tgt := 13) (by decide +kernel) (by decide) (fun _ => ?_) (fun _ => ?_)
    · refine sBk (lo' := [(0, vr 12 0), (1, vi a1)]) (st' := [vi a1, vr 8 0]) (μ' := μ2) (pc' := 18) [(.aload_n 0, 0, 0, 0, 0), (.getfield 30, 11, 6, 0, 0), (.iload_n 1, 0, 0, 0, 0)] (by decide +kernel) rfl rfl ?_
      refine sCvI oI rfl (ci := 7) (q := (8, 0)) (avs := [vi a1]) (rest := []) (tX7_isMissing a1 μ2) (by decide) (by decide +kernel) lk_11_118 yv_X7_isMissing rfl (by decide) rfl rfl rfl (Nat.le_of_ble_eq_true rfl) (fun x3 μ4 => ?_)
      refine sIf_eq oI (off := 9) (tgt := 30) (by decide +kernel) (by decide) (fun _ => ?_) (fun _ => ?_)
      · refine sBk (lo' := [(2, vi (rI μ4 4 0 0)), (0, vr 12 0), (1, vi a1)]) (st' := [vi a1, vr 42 0, vi (rI μ4 4 0 0)]) (μ' := μ4) (pc' := 50) [(.aload_n 0, 0, 0, 0, 0), (.getfield 16, 11, 4, 0, 0), (.getfield 160, 4, 8, 0, 0), (.getfield 164, 3, 0, 0, 0), (.istore_n 2, 0, 0, 0, 0), (.iload_n 2, 0, 0, 0, 0), (.aload_n 0, 0, 0, 0, 0), (.getfield 30, 11, 6, 0, 0), (.getfield 259, 7, 2, 0, 0), (.iload_n 1, 0, 0, 0, 0)] (by decide +kernel) rfl rfl ?_
        refine sS_ial oI rfl (n := 4) (j := (ix a1)) (by decide +kernel) rfl rfl rfl (fun _ => ?_)
        refine sIc_le oI (off := 9) (tgt := 60) (by decide +kernel) (by decide) (fun _ => ?_) (fun _ => ?_)
        · refine sBk (lo' := [(3, vi 0), (2, vi (rI μ4 4 0 0)), (0, vr 12 0), (1, vi a1)]) (st' := []) (μ' := μ4) (pc' := 62) [(.iconst 0, 0, 0, 0, 0), (.istore_n 3, 0, 0, 0, 0)] (by decide +kernel) rfl rfl ?_
          refine sWk (lo' := [(0, vr 12 0), (1, vi a1), (2, vi (rI μ4 4 0 0)), (3, vi 0)]) [2, 3, 1, 0] rfl ?_
          exact X11_copyStored_L62_ok fuN a1 (rI μ4 4 0 0) 0 μ4
        · refine sBk (lo' := [(2, vi (rI μ4 4 0 0)), (0, vr 12 0), (1, vi a1)]) (st' := [vi 4, vr 12 0]) (μ' := μ4) (pc' := 56) [(.aload_n 0, 0, 0, 0, 0), (.iconst 4, 0, 0, 4, 0)] (by decide +kernel) rfl rfl ?_
          refine sCvI oI rfl (ci := 11) (q := (12, 0)) (avs := [vi 4]) (rest := []) (tX11_refuse 4 μ4) (by decide) (by decide +kernel) lk_11_110 yv_X11_refuse rfl (by decide) rfl rfl rfl (Nat.le_of_ble_eq_true rfl) (fun x5 μ6 => ?_)
          exact sRi (by decide +kernel) (fun h => by cases h)
      · refine sBk (lo' := [(0, vr 12 0), (1, vi a1)]) (st' := [vi 3, vr 12 0]) (μ' := μ4) (pc' := 26) [(.aload_n 0, 0, 0, 0, 0), (.iconst 3, 0, 0, 3, 0)] (by decide +kernel) rfl rfl ?_
        refine sCvI oI rfl (ci := 11) (q := (12, 0)) (avs := [vi 3]) (rest := []) (tX11_refuse 3 μ4) (by decide) (by decide +kernel) lk_11_110 yv_X11_refuse rfl (by decide) rfl rfl rfl (Nat.le_of_ble_eq_true rfl) (fun x7 μ8 => ?_)
        exact sRi (by decide +kernel) (fun h => by cases h)
    · refine sBk (lo' := [(0, vr 12 0), (1, vi a1)]) (st' := [vi 1, vr 12 0]) (μ' := μ2) (pc' := 9) [(.aload_n 0, 0, 0, 0, 0), (.iconst 1, 0, 0, 1, 0)] (by decide +kernel) rfl rfl ?_
      refine sCvI oI rfl (ci := 11) (q := (12, 0)) (avs := [vi 1]) (rest := []) (tX11_refuse 1 μ2) (by decide) (by decide +kernel) lk_11_110 yv_X11_refuse rfl (by decide) rfl rfl rfl (Nat.le_of_ble_eq_true rfl) (fun x9 μ10 => ?_)
      exact sRi (by decide +kernel) (fun h => by cases h)
/-! ClockRiver.hour -/
def X11_hour_J12 (μ : sM) : Option (Int32 × sM) :=
  bI (X11_refuse 5 μ) fun x1 μ2 =>
    some (x1, μ2)
theorem X11_hour_J12_ok (μ : sM) : sOk 11 cX11_hour 2 4 false 12 [(0, vr 12 0)] [] μ (oI (X11_hour_J12 μ)) := by
  unfold X11_hour_J12
  refine sBk (lo' := [(0, vr 12 0)]) (st' := [vi 5, vr 12 0]) (μ' := μ) (pc' := 14) [(.aload_n 0, 0, 0, 0, 0), (.iconst 5, 0, 0, 5, 0)] (by decide +kernel) rfl rfl ?_
  refine sCvI oI rfl (ci := 11) (q := (12, 0)) (avs := [vi 5]) (rest := []) (tX11_refuse 5 μ) (by decide) (by decide +kernel) lk_11_110 yv_X11_refuse rfl (by decide) rfl rfl rfl (Nat.le_of_ble_eq_true rfl) (fun x1 μ2 => ?_)
  exact sRi (by decide +kernel) (fun h => by cases h)
def X11_hour (a1 : Int32) (μ : sM) : Option (Int32 × sM) :=
  if a1 < 1 then
    X11_hour_J12 μ
  else
    if a1 ≤ 168 then
      bI (X4_hasHours 0 a1 μ) fun x1 μ2 =>
        if x1 = 0 then
          bI (X11_refuse 7 μ2) fun x7 μ8 =>
            some (x7, μ8)
        else
          bI (X4_passHours 0 a1 μ2) fun x3 μ4 =>
            bI (X11_give x3 μ4) fun x5 μ6 =>
              some (x5, μ6)
    else
      X11_hour_J12 μ
theorem tX11_hour (a1 : Int32) (μ : sM) : sMt yX11_hour cX11_hour 2 (some .int) 4 [vr 12 0, vi a1] μ (oI (X11_hour a1 μ)) := by
  refine sMt_of (own := 11) (bl := false) (by decide +kernel) rfl (Nat.le_of_ble_eq_true rfl) (fun r ρ h => ?_) ?_
  · obtain ⟨q, -, hq⟩ := Option.map_eq_some_iff.mp h
    cases hq
    exact Or.inl rfl
  · unfold X11_hour
    show sOk 11 cX11_hour 2 4 false 0 [(0, vr 12 0), (1, vi a1)] [] μ _
    refine sBk (lo' := [(0, vr 12 0), (1, vi a1)]) (st' := [vi 1, vi a1]) (μ' := μ) (pc' := 2) [(.iload_n 1, 0, 0, 0, 0), (.iconst 1, 0, 0, 1, 0)] (by decide +kernel) rfl rfl ?_
    refine sIc_lt oI (off := 10) (tgt := 12) (by decide +kernel) (by decide) (fun _ => ?_) (fun _ => ?_)
    · refine sWk (lo' := [(0, vr 12 0)]) [0] rfl ?_
      exact X11_hour_J12_ok μ
    · refine sBk (lo' := [(0, vr 12 0), (1, vi a1)]) (st' := [vi 168, vi a1]) (μ' := μ) (pc' := 9) [(.iload_n 1, 0, 0, 0, 0), (.sipush 168, 0, 0, 168, 0)] (by decide +kernel) rfl rfl ?_
      refine sIc_le oI (off := 9) (tgt := 18) (by decide +kernel) (by decide) (fun _ => ?_) (fun _ => ?_)
      · refine sBk (lo' := [(0, vr 12 0), (1, vi a1)]) (st' := [vi a1, vr 5 0]) (μ' := μ) (pc' := 23) [(.aload_n 0, 0, 0, 0, 0), (.getfield 16, 11, 4, 0, 0), (.iload_n 1, 0, 0, 0, 0)] (by decide +kernel) rfl rfl ?_
        refine sCvI oI rfl (ci := 4) (q := (5, 0)) (avs := [vi a1]) (rest := []) (tX4_hasHours 0 a1 μ) (by decide) (by decide +kernel) lk_11_262 yv_X4_hasHours rfl (by decide) rfl rfl rfl (Nat.le_of_ble_eq_true rfl) (fun x1 μ2 => ?_)
        refine sIf_ne oI (off := 10) (tgt := 36) (by decide +kernel) (by decide) (fun _ => ?_) (fun _ => ?_)
        · refine sBk (lo' := [(0, vr 12 0), (1, vi a1)]) (st' := [vi a1, vr 5 0, vr 12 0]) (μ' := μ2) (pc' := 42) [(.aload_n 0, 0, 0, 0, 0), (.aload_n 0, 0, 0, 0, 0), (.getfield 16, 11, 4, 0, 0), (.iload_n 1, 0, 0, 0, 0)] (by decide +kernel) rfl rfl ?_
          refine sCvI oI rfl (ci := 4) (q := (5, 0)) (avs := [vi a1]) (rest := [vr 12 0]) (tX4_passHours 0 a1 μ2) (by decide) (by decide +kernel) lk_11_265 yv_X4_passHours rfl (by decide) rfl rfl rfl (Nat.le_of_ble_eq_true rfl) (fun x3 μ4 => ?_)
          refine sCvI oI rfl (ci := 11) (q := (12, 0)) (avs := [vi x3]) (rest := []) (tX11_give x3 μ4) (by decide) (by decide +kernel) lk_11_169 yv_X11_give rfl (by decide) rfl rfl rfl (Nat.le_of_ble_eq_true rfl) (fun x5 μ6 => ?_)
          exact sRi (by decide +kernel) (fun h => by cases h)
        · refine sBk (lo' := [(0, vr 12 0), (1, vi a1)]) (st' := [vi 7, vr 12 0]) (μ' := μ2) (pc' := 32) [(.aload_n 0, 0, 0, 0, 0), (.bipush 7, 0, 0, 7, 0)] (by decide +kernel) rfl rfl ?_
          refine sCvI oI rfl (ci := 11) (q := (12, 0)) (avs := [vi 7]) (rest := []) (tX11_refuse 7 μ2) (by decide) (by decide +kernel) lk_11_110 yv_X11_refuse rfl (by decide) rfl rfl rfl (Nat.le_of_ble_eq_true rfl) (fun x7 μ8 => ?_)
          exact sRi (by decide +kernel) (fun h => by cases h)
      · refine sWk (lo' := [(0, vr 12 0)]) [0] rfl ?_
        exact X11_hour_J12_ok μ
/-! ClockRiver.wind -/
def X11_wind (a1 : Int32) (a2 : Int32) (μ : sM) : Option (Int32 × sM) :=
  bI (X4_hasWinder 0 a1 μ) fun x1 μ2 =>
    if x1 = 0 then
      bI (X11_refuse 2 μ2) fun x11 μ12 =>
        some (x11, μ12)
    else
      bI (X4_isLawDay 0 μ2) fun x3 μ4 =>
        if x3 = 0 then
          bV (X4_letWind 0 a1 a2 μ4) fun μ6 =>
            bI (X11_give (rI μ6 5 0 0) μ6) fun x7 μ8 =>
              some (x7, μ8)
        else
          bI (X11_refuse 9 μ4) fun x9 μ10 =>
            some (x9, μ10)
theorem tX11_wind (a1 : Int32) (a2 : Int32) (μ : sM) : sMt yX11_wind cX11_wind 3 (some .int) 3 [vr 12 0, vi a1, vi a2] μ (oI (X11_wind a1 a2 μ)) := by
  refine sMt_of (own := 11) (bl := false) (by decide +kernel) rfl (Nat.le_of_ble_eq_true rfl) (fun r ρ h => ?_) ?_
  · obtain ⟨q, -, hq⟩ := Option.map_eq_some_iff.mp h
    cases hq
    exact Or.inl rfl
  · unfold X11_wind
    show sOk 11 cX11_wind 3 3 false 0 [(0, vr 12 0), (1, vi a1), (2, vi a2)] [] μ _
    refine sBk (lo' := [(0, vr 12 0), (1, vi a1), (2, vi a2)]) (st' := [vi a1, vr 5 0]) (μ' := μ) (pc' := 5) [(.aload_n 0, 0, 0, 0, 0), (.getfield 16, 11, 4, 0, 0), (.iload_n 1, 0, 0, 0, 0)] (by decide +kernel) rfl rfl ?_
    refine sCvI oI rfl (ci := 4) (q := (5, 0)) (avs := [vi a1]) (rest := []) (tX4_hasWinder 0 a1 μ) (by decide) (by decide +kernel) lk_11_238 yv_X4_hasWinder rfl (by decide) rfl rfl rfl (Nat.le_of_ble_eq_true rfl) (fun x1 μ2 => ?_)
    refine sIf_ne oI (off := 9) (tgt := 17) (by decide +kernel) (by decide) (fun _ => ?_) (fun _ => ?_)
    · refine sBk (lo' := [(0, vr 12 0), (1, vi a1), (2, vi a2)]) (st' := [vr 5 0]) (μ' := μ2) (pc' := 21) [(.aload_n 0, 0, 0, 0, 0), (.getfield 16, 11, 4, 0, 0)] (by decide +kernel) rfl rfl ?_
      refine sCvI oI rfl (ci := 4) (q := (5, 0)) (avs := []) (rest := []) (tX4_isLawDay 0 μ2) (by decide) (by decide +kernel) lk_11_268 yv_X4_isLawDay rfl (by decide) rfl rfl rfl (Nat.le_of_ble_eq_true rfl) (fun x3 μ4 => ?_)
      refine sIf_eq oI (off := 10) (tgt := 34) (by decide +kernel) (by decide) (fun _ => ?_) (fun _ => ?_)
      · refine sBk (lo' := [(0, vr 12 0), (1, vi a1), (2, vi a2)]) (st' := [vi a2, vi a1, vr 5 0]) (μ' := μ4) (pc' := 40) [(.aload_n 0, 0, 0, 0, 0), (.getfield 16, 11, 4, 0, 0), (.iload_n 1, 0, 0, 0, 0), (.iload_n 2, 0, 0, 0, 0)] (by decide +kernel) rfl rfl ?_
        refine sCvV oI rfl (ci := 4) (q := (5, 0)) (avs := [vi a1, vi a2]) (rest := []) (tX4_letWind 0 a1 a2 μ4) (by decide) (by decide +kernel) lk_11_271 yv_X4_letWind rfl (by decide) rfl rfl rfl (Nat.le_of_ble_eq_true rfl) (fun μ6 => ?_)
        refine sBk (lo' := [(0, vr 12 0), (1, vi a1), (2, vi a2)]) (st' := [vi (rI μ6 5 0 0), vr 12 0]) (μ' := μ6) (pc' := 51) [(.aload_n 0, 0, 0, 0, 0), (.aload_n 0, 0, 0, 0, 0), (.getfield 16, 11, 4, 0, 0), (.getfield 193, 4, 0, 0, 0)] (by decide +kernel) rfl rfl ?_
        refine sCvI oI rfl (ci := 11) (q := (12, 0)) (avs := [vi (rI μ6 5 0 0)]) (rest := []) (tX11_give (rI μ6 5 0 0) μ6) (by decide) (by decide +kernel) lk_11_169 yv_X11_give rfl (by decide) rfl rfl rfl (Nat.le_of_ble_eq_true rfl) (fun x7 μ8 => ?_)
        exact sRi (by decide +kernel) (fun h => by cases h)
      · refine sBk (lo' := [(0, vr 12 0), (1, vi a1), (2, vi a2)]) (st' := [vi 9, vr 12 0]) (μ' := μ4) (pc' := 30) [(.aload_n 0, 0, 0, 0, 0), (.bipush 9, 0, 0, 9, 0)] (by decide +kernel) rfl rfl ?_
        refine sCvI oI rfl (ci := 11) (q := (12, 0)) (avs := [vi 9]) (rest := []) (tX11_refuse 9 μ4) (by decide) (by decide +kernel) lk_11_110 yv_X11_refuse rfl (by decide) rfl rfl rfl (Nat.le_of_ble_eq_true rfl) (fun x9 μ10 => ?_)
        exact sRi (by decide +kernel) (fun h => by cases h)
    · refine sBk (lo' := [(0, vr 12 0), (1, vi a1), (2, vi a2)]) (st' := [vi 2, vr 12 0]) (μ' := μ2) (pc' := 13) [(.aload_n 0, 0, 0, 0, 0), (.iconst 2, 0, 0, 2, 0)] (by decide +kernel) rfl rfl ?_
      refine sCvI oI rfl (ci := 11) (q := (12, 0)) (avs := [vi 2]) (rest := []) (tX11_refuse 2 μ2) (by decide) (by decide +kernel) lk_11_110 yv_X11_refuse rfl (by decide) rfl rfl rfl (Nat.le_of_ble_eq_true rfl) (fun x11 μ12 => ?_)
      exact sRi (by decide +kernel) (fun h => by cases h)
/-! ClockRiver.oil -/
def X11_oil (μ : sM) : Option (Int32 × sM) :=
  bI (X11_give 12 (wI μ 5 0 5 12)) fun x1 μ2 =>
    some (x1, μ2)
theorem tX11_oil (μ : sM) : sMt yX11_oil cX11_oil 1 (some .int) 2 [vr 12 0] μ (oI (X11_oil μ)) := by
  refine sMt_of (own := 11) (bl := false) (by decide +kernel) rfl (Nat.le_of_ble_eq_true rfl) (fun r ρ h => ?_) ?_
  · obtain ⟨q, -, hq⟩ := Option.map_eq_some_iff.mp h
    cases hq
    exact Or.inl rfl
  · unfold X11_oil
    show sOk 11 cX11_oil 1 2 false 0 [(0, vr 12 0)] [] μ _
    refine sBk (lo' := [(0, vr 12 0)]) (st' := [vi 12, vr 12 0]) (μ' := wI μ 5 0 5 12) (pc' := 17) [(.aload_n 0, 0, 0, 0, 0), (.getfield 16, 11, 4, 0, 0), (.bipush 12, 0, 0, 12, 0), (.putfield 275, 4, 5, 0, 0), (.aload_n 0, 0, 0, 0, 0), (.aload_n 0, 0, 0, 0, 0), (.getfield 16, 11, 4, 0, 0), (.getfield 275, 4, 5, 0, 0)] (by decide +kernel) rfl rfl ?_
    refine sCvI oI rfl (ci := 11) (q := (12, 0)) (avs := [vi 12]) (rest := []) (tX11_give 12 (wI μ 5 0 5 12)) (by decide) (by decide +kernel) lk_11_169 yv_X11_give rfl (by decide) rfl rfl rfl (Nat.le_of_ble_eq_true rfl) (fun x1 μ2 => ?_)
    exact sRi (by decide +kernel) (fun h => by cases h)
/-! ClockRiver.gate -/
def X11_gate_J27 (μ : sM) : Option (Int32 × sM) :=
  bI (X11_refuse 5 μ) fun x1 μ2 =>
    some (x1, μ2)
theorem X11_gate_J27_ok (μ : sM) : sOk 11 cX11_gate 4 2 false 27 [(0, vr 12 0)] [] μ (oI (X11_gate_J27 μ)) := by
  unfold X11_gate_J27
  refine sBk (lo' := [(0, vr 12 0)]) (st' := [vi 5, vr 12 0]) (μ' := μ) (pc' := 29) [(.aload_n 0, 0, 0, 0, 0), (.iconst 5, 0, 0, 5, 0)] (by decide +kernel) rfl rfl ?_
  refine sCvI oI rfl (ci := 11) (q := (12, 0)) (avs := [vi 5]) (rest := []) (tX11_refuse 5 μ) (by decide) (by decide +kernel) lk_11_110 yv_X11_refuse rfl (by decide) rfl rfl rfl (Nat.le_of_ble_eq_true rfl) (fun x1 μ2 => ?_)
  exact sRi (by decide +kernel) (fun h => by cases h)
def X11_gate (a1 : Int32) (a2 : Int32) (μ : sM) : Option (Int32 × sM) :=
  bI (X4_hasReach 0 a1 μ) fun x1 μ2 =>
    if x1 = 0 then
      bI (X11_refuse 2 μ2) fun x7 μ8 =>
        some (x7, μ8)
    else
      if a2 < 0 then
        X11_gate_J27 μ2
      else
        if a2 ≤ 99 then
          if inb a1 6 = true then
            if (rI μ2 30 0 (ix a1)) = a2 then
              bI (X11_refuse 9 μ2) fun x5 μ6 =>
                some (x5, μ6)
            else
              if inb a1 6 = true then
                bI (X11_give (rI μ2 30 0 (ix a1)) (wI μ2 30 0 (ix a1) a2)) fun x3 μ4 =>
                  some (x3, μ4)
              else none
          else none
        else
          X11_gate_J27 μ2
theorem tX11_gate (a1 : Int32) (a2 : Int32) (μ : sM) : sMt yX11_gate cX11_gate 4 (some .int) 2 [vr 12 0, vi a1, vi a2] μ (oI (X11_gate a1 a2 μ)) := by
  refine sMt_of (own := 11) (bl := false) (by decide +kernel) rfl (Nat.le_of_ble_eq_true rfl) (fun r ρ h => ?_) ?_
  · obtain ⟨q, -, hq⟩ := Option.map_eq_some_iff.mp h
    cases hq
    exact Or.inl rfl
  · unfold X11_gate
    show sOk 11 cX11_gate 4 2 false 0 [(0, vr 12 0), (1, vi a1), (2, vi a2)] [] μ _
    refine sBk (lo' := [(0, vr 12 0), (1, vi a1), (2, vi a2)]) (st' := [vi a1, vr 5 0]) (μ' := μ) (pc' := 5) [(.aload_n 0, 0, 0, 0, 0), (.getfield 16, 11, 4, 0, 0), (.iload_n 1, 0, 0, 0, 0)] (by decide +kernel) rfl rfl ?_
    refine sCvI oI rfl (ci := 4) (q := (5, 0)) (avs := [vi a1]) (rest := []) (tX4_hasReach 0 a1 μ) (by decide) (by decide +kernel) lk_11_200 yv_X4_hasReach rfl (by decide) rfl rfl rfl (Nat.le_of_ble_eq_true rfl) (fun x1 μ2 => ?_)
    refine sIf_ne oI (off := 9) (tgt := 17) (by decide +kernel) (by decide) (fun _ => ?_) (fun _ => ?_)
    · refine sBk (lo' := [(0, vr 12 0), (1, vi a1), (2, vi a2)]) (st' := [vi a2]) (μ' := μ2) (pc' := 18) [(.iload_n 2, 0, 0, 0, 0)] (by decide +kernel) rfl rfl ?_
      refine sIf_lt oI (off := 9) (tgt := 27) (by decide +kernel) (by decide) (fun _ => ?_) (fun _ => ?_)
      · refine sWk (lo' := [(0, vr 12 0)]) [0] rfl ?_
        exact X11_gate_J27_ok μ2
      · refine sBk (lo' := [(0, vr 12 0), (1, vi a1), (2, vi a2)]) (st' := [vi 99, vi a2]) (μ' := μ2) (pc' := 24) [(.iload_n 2, 0, 0, 0, 0), (.bipush 99, 0, 0, 99, 0)] (by decide +kernel) rfl rfl ?_
        refine sIc_le oI (off := 9) (tgt := 33) (by decide +kernel) (by decide) (fun _ => ?_) (fun _ => ?_)
        · refine sBk (lo' := [(0, vr 12 0), (1, vi a1), (2, vi a2)]) (st' := [vi a1, vr 30 0]) (μ' := μ2) (pc' := 44) [(.aload_n 0, 0, 0, 0, 0), (.getfield 16, 11, 4, 0, 0), (.getfield 160, 4, 8, 0, 0), (.getfield 206, 3, 3, 0, 0), (.iload_n 1, 0, 0, 0, 0)] (by decide +kernel) rfl rfl ?_
          refine sS_ial oI rfl (n := 6) (j := (ix a1)) (by decide +kernel) rfl rfl rfl (fun _ => ?_)
          refine sBk (lo' := [(3, vi (rI μ2 30 0 (ix a1))), (0, vr 12 0), (1, vi a1), (2, vi a2)]) (st' := [vi a2, vi (rI μ2 30 0 (ix a1))]) (μ' := μ2) (pc' := 48) [(.istore_n 3, 0, 0, 0, 0), (.iload_n 3, 0, 0, 0, 0), (.iload_n 2, 0, 0, 0, 0)] (by decide +kernel) rfl rfl ?_
          refine sIc_ne oI (off := 10) (tgt := 58) (by decide +kernel) (by decide) (fun _ => ?_) (fun _ => ?_)
          · refine sBk (lo' := [(3, vi (rI μ2 30 0 (ix a1))), (0, vr 12 0), (1, vi a1), (2, vi a2)]) (st' := [vi a2, vi a1, vr 30 0]) (μ' := μ2) (pc' := 70) [(.aload_n 0, 0, 0, 0, 0), (.getfield 16, 11, 4, 0, 0), (.getfield 160, 4, 8, 0, 0), (.getfield 206, 3, 3, 0, 0), (.iload_n 1, 0, 0, 0, 0), (.iload_n 2, 0, 0, 0, 0)] (by decide +kernel) rfl rfl ?_
            refine sS_ias oI rfl (n := 6) (j := (ix a1)) (by decide +kernel) rfl rfl rfl (fun _ => ?_)
            refine sBk (lo' := [(3, vi (rI μ2 30 0 (ix a1))), (0, vr 12 0), (1, vi a1), (2, vi a2)]) (st' := [vi (rI μ2 30 0 (ix a1)), vr 12 0]) (μ' := wI μ2 30 0 (ix a1) a2) (pc' := 73) [(.aload_n 0, 0, 0, 0, 0), (.iload_n 3, 0, 0, 0, 0)] (by decide +kernel) rfl rfl ?_
            refine sCvI oI rfl (ci := 11) (q := (12, 0)) (avs := [vi (rI μ2 30 0 (ix a1))]) (rest := []) (tX11_give (rI μ2 30 0 (ix a1)) (wI μ2 30 0 (ix a1) a2)) (by decide) (by decide +kernel) lk_11_169 yv_X11_give rfl (by decide) rfl rfl rfl (Nat.le_of_ble_eq_true rfl) (fun x3 μ4 => ?_)
            exact sRi (by decide +kernel) (fun h => by cases h)
          · refine sBk (lo' := [(3, vi (rI μ2 30 0 (ix a1))), (0, vr 12 0), (1, vi a1), (2, vi a2)]) (st' := [vi 9, vr 12 0]) (μ' := μ2) (pc' := 54) [(.aload_n 0, 0, 0, 0, 0), (.bipush 9, 0, 0, 9, 0)] (by decide +kernel) rfl rfl ?_
            refine sCvI oI rfl (ci := 11) (q := (12, 0)) (avs := [vi 9]) (rest := []) (tX11_refuse 9 μ2) (by decide) (by decide +kernel) lk_11_110 yv_X11_refuse rfl (by decide) rfl rfl rfl (Nat.le_of_ble_eq_true rfl) (fun x5 μ6 => ?_)
            exact sRi (by decide +kernel) (fun h => by cases h)
        · refine sWk (lo' := [(0, vr 12 0)]) [0] rfl ?_
          exact X11_gate_J27_ok μ2
    · refine sBk (lo' := [(0, vr 12 0), (1, vi a1), (2, vi a2)]) (st' := [vi 2, vr 12 0]) (μ' := μ2) (pc' := 13) [(.aload_n 0, 0, 0, 0, 0), (.iconst 2, 0, 0, 2, 0)] (by decide +kernel) rfl rfl ?_
      refine sCvI oI rfl (ci := 11) (q := (12, 0)) (avs := [vi 2]) (rest := []) (tX11_refuse 2 μ2) (by decide) (by decide +kernel) lk_11_110 yv_X11_refuse rfl (by decide) rfl rfl rfl (Nat.le_of_ble_eq_true rfl) (fun x7 μ8 => ?_)
      exact sRi (by decide +kernel) (fun h => by cases h)
/-! ClockRiver.rain -/
def X11_rain (a1 : Int32) (μ : sM) : Option (Int32 × sM) :=
  if (rI μ 5 0 6) = a1 then
    bI (X11_deny 9 μ) fun x3 μ4 =>
      if x3 = 0 ∨ x3 = 1 then some (x3, μ4) else none
  else
    if a1 = 0 ∨ a1 = 1 then
      bI (X11_grant (wI μ 5 0 6 a1)) fun x1 μ2 =>
        if x1 = 0 ∨ x1 = 1 then some (x1, μ2) else none
    else none
theorem tX11_rain (a1 : Int32) (μ : sM) : sMt yX11_rain cX11_rain 2 (some .boolean) 2 [vr 12 0, vi a1] μ (oI (X11_rain a1 μ)) := by
  refine sMt_of (own := 11) (bl := true) (by decide +kernel) rfl (Nat.le_of_ble_eq_true rfl) (fun r ρ h => ?_) ?_
  · obtain ⟨q, -, hq⟩ := Option.map_eq_some_iff.mp h
    cases hq
    exact Or.inr ⟨rfl, rfl⟩
  · unfold X11_rain
    show sOk 11 cX11_rain 2 2 true 0 [(0, vr 12 0), (1, vi a1)] [] μ _
    refine sBk (lo' := [(0, vr 12 0), (1, vi a1)]) (st' := [vi a1, vi (rI μ 5 0 6)]) (μ' := μ) (pc' := 8) [(.aload_n 0, 0, 0, 0, 0), (.getfield 16, 11, 4, 0, 0), (.getfield 278, 4, 6, 0, 0), (.iload_n 1, 0, 0, 0, 0)] (by decide +kernel) rfl rfl ?_
    refine sIc_ne oI (off := 10) (tgt := 18) (by decide +kernel) (by decide) (fun _ => ?_) (fun _ => ?_)
    · refine sBk (lo' := [(0, vr 12 0), (1, vi a1)]) (st' := [vi a1, vr 5 0]) (μ' := μ) (pc' := 23) [(.aload_n 0, 0, 0, 0, 0), (.getfield 16, 11, 4, 0, 0), (.iload_n 1, 0, 0, 0, 0)] (by decide +kernel) rfl rfl ?_
      refine sS_pz oI rfl (idx := 278) (ci := 4) (sl := 6) (by decide +kernel) rfl rfl (fun _ => ?_)
      refine sBk (lo' := [(0, vr 12 0), (1, vi a1)]) (st' := [vr 12 0]) (μ' := wI μ 5 0 6 a1) (pc' := 27) [(.aload_n 0, 0, 0, 0, 0)] (by decide +kernel) rfl rfl ?_
      refine sCvI oI rfl (ci := 11) (q := (12, 0)) (avs := []) (rest := []) (tX11_grant (wI μ 5 0 6 a1)) (by decide) (by decide +kernel) lk_11_98 yv_X11_grant rfl (by decide) rfl rfl rfl (Nat.le_of_ble_eq_true rfl) (fun x1 μ2 => ?_)
      exact sCk oI rfl (fun h => sRi (by decide +kernel) (fun _ => h))
    · refine sBk (lo' := [(0, vr 12 0), (1, vi a1)]) (st' := [vi 9, vr 12 0]) (μ' := μ) (pc' := 14) [(.aload_n 0, 0, 0, 0, 0), (.bipush 9, 0, 0, 9, 0)] (by decide +kernel) rfl rfl ?_
      refine sCvI oI rfl (ci := 11) (q := (12, 0)) (avs := [vi 9]) (rest := []) (tX11_deny 9 μ) (by decide) (by decide +kernel) lk_11_91 yv_X11_deny rfl (by decide) rfl rfl rfl (Nat.le_of_ble_eq_true rfl) (fun x3 μ4 => ?_)
      exact sCk oI rfl (fun h => sRi (by decide +kernel) (fun _ => h))
/-! ClockRiver.bring -/
def X11_bring_J35 (μ : sM) : Option (Int32 × sM) :=
  bI (X11_refuse 5 μ) fun x1 μ2 =>
    some (x1, μ2)
theorem X11_bring_J35_ok (μ : sM) : sOk 11 cX11_bring 3 2 false 35 [(0, vr 12 0)] [] μ (oI (X11_bring_J35 μ)) := by
  unfold X11_bring_J35
  refine sBk (lo' := [(0, vr 12 0)]) (st' := [vi 5, vr 12 0]) (μ' := μ) (pc' := 37) [(.aload_n 0, 0, 0, 0, 0), (.iconst 5, 0, 0, 5, 0)] (by decide +kernel) rfl rfl ?_
  refine sCvI oI rfl (ci := 11) (q := (12, 0)) (avs := [vi 5]) (rest := []) (tX11_refuse 5 μ) (by decide) (by decide +kernel) lk_11_110 yv_X11_refuse rfl (by decide) rfl rfl rfl (Nat.le_of_ble_eq_true rfl) (fun x1 μ2 => ?_)
  exact sRi (by decide +kernel) (fun h => by cases h)
def X11_bring (a1 : Int32) (a2 : Int32) (μ : sM) : Option (Int32 × sM) :=
  bI (X4_hasReach 0 a1 μ) fun x1 μ2 =>
    if x1 = 0 then
      bI (X11_refuse 2 μ2) fun x9 μ10 =>
        some (x9, μ10)
    else
      if a2 = 0 then
        X11_bring_J35 μ2
      else
        if 999 < a2 then
          X11_bring_J35 μ2
        else
          if (-999) ≤ a2 then
            if inb a1 6 = true then
              if 0 ≤ ((rI μ2 31 0 (ix a1)) + a2) then
                if inb a1 6 = true then
                  if inb a1 6 = true then
                    bI (X3_spill 0 (wI μ2 31 0 (ix a1) ((rI μ2 31 0 (ix a1)) + a2))) fun x3 μ4 =>
                      if inb a1 6 = true then
                        bI (X11_give (rI μ4 31 0 (ix a1)) (wL μ4 34 0 3 ((rL μ2 34 0 3) + (Int32.toInt64 x3)))) fun x5 μ6 =>
                          some (x5, μ6)
                      else none
                  else none
                else none
              else
                bI (X11_refuse 9 μ2) fun x7 μ8 =>
                  some (x7, μ8)
            else none
          else
            X11_bring_J35 μ2
theorem tX11_bring (a1 : Int32) (a2 : Int32) (μ : sM) : sMt yX11_bring cX11_bring 3 (some .int) 2 [vr 12 0, vi a1, vi a2] μ (oI (X11_bring a1 a2 μ)) := by
  refine sMt_of (own := 11) (bl := false) (by decide +kernel) rfl (Nat.le_of_ble_eq_true rfl) (fun r ρ h => ?_) ?_
  · obtain ⟨q, -, hq⟩ := Option.map_eq_some_iff.mp h
    cases hq
    exact Or.inl rfl
  · unfold X11_bring
    show sOk 11 cX11_bring 3 2 false 0 [(0, vr 12 0), (1, vi a1), (2, vi a2)] [] μ _
    refine sBk (lo' := [(0, vr 12 0), (1, vi a1), (2, vi a2)]) (st' := [vi a1, vr 5 0]) (μ' := μ) (pc' := 5) [(.aload_n 0, 0, 0, 0, 0), (.getfield 16, 11, 4, 0, 0), (.iload_n 1, 0, 0, 0, 0)] (by decide +kernel) rfl rfl ?_
    refine sCvI oI rfl (ci := 4) (q := (5, 0)) (avs := [vi a1]) (rest := []) (tX4_hasReach 0 a1 μ) (by decide) (by decide +kernel) lk_11_200 yv_X4_hasReach rfl (by decide) rfl rfl rfl (Nat.le_of_ble_eq_true rfl) (fun x1 μ2 => ?_)
    refine sIf_ne oI (off := 9) (tgt := 17) (by decide +kernel) (by decide) (fun _ => ?_) (fun _ => ?_)
    · refine sBk (lo' := [(0, vr 12 0), (1, vi a1), (2, vi a2)]) (st' := [vi a2]) (μ' := μ2) (pc' := 18) [(.iload_n 2, 0, 0, 0, 0)] (by decide +kernel) rfl rfl ?_
      refine sIf_eq oI (off := 17) (tgt := 35) (by decide +kernel) (by decide) (fun _ => ?_) (fun _ => ?_)
      · refine sWk (lo' := [(0, vr 12 0)]) [0] rfl ?_
        exact X11_bring_J35_ok μ2
      · refine sBk (lo' := [(0, vr 12 0), (1, vi a1), (2, vi a2)]) (st' := [vi 999, vi a2]) (μ' := μ2) (pc' := 25) [(.iload_n 2, 0, 0, 0, 0), (.sipush 999, 0, 0, 999, 0)] (by decide +kernel) rfl rfl ?_
        refine sIc_gt oI (off := 10) (tgt := 35) (by decide +kernel) (by decide) (fun _ => ?_) (fun _ => ?_)
        · refine sWk (lo' := [(0, vr 12 0)]) [0] rfl ?_
          exact X11_bring_J35_ok μ2
        · refine sBk (lo' := [(0, vr 12 0), (1, vi a1), (2, vi a2)]) (st' := [vi (-999), vi a2]) (μ' := μ2) (pc' := 32) [(.iload_n 2, 0, 0, 0, 0), (.sipush (-999), 0, 0, (-999), 0)] (by decide +kernel) rfl rfl ?_
          refine sIc_ge oI (off := 9) (tgt := 41) (by decide +kernel) (by decide) (fun _ => ?_) (fun _ => ?_)
          · refine sBk (lo' := [(0, vr 12 0), (1, vi a1), (2, vi a2)]) (st' := [vi a1, vr 31 0]) (μ' := μ2) (pc' := 52) [(.aload_n 0, 0, 0, 0, 0), (.getfield 16, 11, 4, 0, 0), (.getfield 160, 4, 8, 0, 0), (.getfield 209, 3, 4, 0, 0), (.iload_n 1, 0, 0, 0, 0)] (by decide +kernel) rfl rfl ?_
            refine sS_ial oI rfl (n := 6) (j := (ix a1)) (by decide +kernel) rfl rfl rfl (fun _ => ?_)
            refine sBk (lo' := [(0, vr 12 0), (1, vi a1), (2, vi a2)]) (st' := [vi ((rI μ2 31 0 (ix a1)) + a2)]) (μ' := μ2) (pc' := 55) [(.iload_n 2, 0, 0, 0, 0), (.iadd, 0, 0, 0, 0)] (by decide +kernel) rfl rfl ?_
            refine sIf_ge oI (off := 10) (tgt := 65) (by decide +kernel) (by decide) (fun _ => ?_) (fun _ => ?_)
            · refine sBk (lo' := [(0, vr 12 0), (1, vi a1), (2, vi a2)]) (st' := [vi a1, vr 31 0, vi a1, vr 31 0]) (μ' := μ2) (pc' := 77) [(.aload_n 0, 0, 0, 0, 0), (.getfield 16, 11, 4, 0, 0), (.getfield 160, 4, 8, 0, 0), (.getfield 209, 3, 4, 0, 0), (.iload_n 1, 0, 0, 0, 0), (.dup2, 0, 0, 0, 0)] (by decide +kernel) rfl rfl ?_
              refine sS_ial oI rfl (n := 6) (j := (ix a1)) (by decide +kernel) rfl rfl rfl (fun _ => ?_)
              refine sBk (lo' := [(0, vr 12 0), (1, vi a1), (2, vi a2)]) (st' := [vi ((rI μ2 31 0 (ix a1)) + a2), vi a1, vr 31 0]) (μ' := μ2) (pc' := 80) [(.iload_n 2, 0, 0, 0, 0), (.iadd, 0, 0, 0, 0)] (by decide +kernel) rfl rfl ?_
              refine sS_ias oI rfl (n := 6) (j := (ix a1)) (by decide +kernel) rfl rfl rfl (fun _ => ?_)
              refine sBk (lo' := [(0, vr 12 0), (1, vi a1), (2, vi a2)]) (st' := [vi 3, vr 34 0, vi 3, vr 34 0]) (μ' := wI μ2 31 0 (ix a1) ((rI μ2 31 0 (ix a1)) + a2)) (pc' := 90) [(.aload_n 0, 0, 0, 0, 0), (.getfield 16, 11, 4, 0, 0), (.getfield 196, 4, 7, 0, 0), (.iconst 3, 0, 0, 3, 0), (.dup2, 0, 0, 0, 0)] (by decide +kernel) rfl rfl ?_
              refine sC_lal (n := 6) (j := 3) (by decide +kernel) (by decide +kernel) rfl rfl (by decide +kernel) ?_
              refine sBk (lo' := [(0, vr 12 0), (1, vi a1), (2, vi a2)]) (st' := [vr 4 0, vl (rL μ2 34 0 3), vi 3, vr 34 0]) (μ' := wI μ2 31 0 (ix a1) ((rI μ2 31 0 (ix a1)) + a2)) (pc' := 98) [(.aload_n 0, 0, 0, 0, 0), (.getfield 16, 11, 4, 0, 0), (.getfield 160, 4, 8, 0, 0)] (by decide +kernel) rfl rfl ?_
              refine sCvI oI rfl (ci := 3) (q := (4, 0)) (avs := []) (rest := [vl (rL μ2 34 0 3), vi 3, vr 34 0]) (tX3_spill 0 (wI μ2 31 0 (ix a1) ((rI μ2 31 0 (ix a1)) + a2))) (by decide) (by decide +kernel) lk_11_282 yv_X3_spill rfl (by decide) rfl rfl rfl (Nat.le_of_ble_eq_true rfl) (fun x3 μ4 => ?_)
              refine sBk (lo' := [(0, vr 12 0), (1, vi a1), (2, vi a2)]) (st' := [vl ((rL μ2 34 0 3) + (Int32.toInt64 x3)), vi 3, vr 34 0]) (μ' := μ4) (pc' := 103) [(.i2l, 0, 0, 0, 0), (.ladd, 0, 0, 0, 0)] (by decide +kernel) rfl rfl ?_
              refine sC_las (n := 6) (j := 3) (by decide +kernel) (by decide +kernel) rfl rfl (by decide +kernel) ?_
              refine sBk (lo' := [(0, vr 12 0), (1, vi a1), (2, vi a2)]) (st' := [vi a1, vr 31 0, vr 12 0]) (μ' := wL μ4 34 0 3 ((rL μ2 34 0 3) + (Int32.toInt64 x3))) (pc' := 116) [(.aload_n 0, 0, 0, 0, 0), (.aload_n 0, 0, 0, 0, 0), (.getfield 16, 11, 4, 0, 0), (.getfield 160, 4, 8, 0, 0), (.getfield 209, 3, 4, 0, 0), (.iload_n 1, 0, 0, 0, 0)] (by decide +kernel) rfl rfl ?_
              refine sS_ial oI rfl (n := 6) (j := (ix a1)) (by decide +kernel) rfl rfl rfl (fun _ => ?_)
              refine sCvI oI rfl (ci := 11) (q := (12, 0)) (avs := [vi (rI μ4 31 0 (ix a1))]) (rest := []) (tX11_give (rI μ4 31 0 (ix a1)) (wL μ4 34 0 3 ((rL μ2 34 0 3) + (Int32.toInt64 x3)))) (by decide) (by decide +kernel) lk_11_169 yv_X11_give rfl (by decide) rfl rfl rfl (Nat.le_of_ble_eq_true rfl) (fun x5 μ6 => ?_)
              exact sRi (by decide +kernel) (fun h => by cases h)
            · refine sBk (lo' := [(0, vr 12 0), (1, vi a1), (2, vi a2)]) (st' := [vi 9, vr 12 0]) (μ' := μ2) (pc' := 61) [(.aload_n 0, 0, 0, 0, 0), (.bipush 9, 0, 0, 9, 0)] (by decide +kernel) rfl rfl ?_
              refine sCvI oI rfl (ci := 11) (q := (12, 0)) (avs := [vi 9]) (rest := []) (tX11_refuse 9 μ2) (by decide) (by decide +kernel) lk_11_110 yv_X11_refuse rfl (by decide) rfl rfl rfl (Nat.le_of_ble_eq_true rfl) (fun x7 μ8 => ?_)
              exact sRi (by decide +kernel) (fun h => by cases h)
          · refine sWk (lo' := [(0, vr 12 0)]) [0] rfl ?_
            exact X11_bring_J35_ok μ2
    · refine sBk (lo' := [(0, vr 12 0), (1, vi a1), (2, vi a2)]) (st' := [vi 2, vr 12 0]) (μ' := μ2) (pc' := 13) [(.aload_n 0, 0, 0, 0, 0), (.iconst 2, 0, 0, 2, 0)] (by decide +kernel) rfl rfl ?_
      refine sCvI oI rfl (ci := 11) (q := (12, 0)) (avs := [vi 2]) (rest := []) (tX11_refuse 2 μ2) (by decide) (by decide +kernel) lk_11_110 yv_X11_refuse rfl (by decide) rfl rfl rfl (Nat.le_of_ble_eq_true rfl) (fun x9 μ10 => ?_)
      exact sRi (by decide +kernel) (fun h => by cases h)
/-! ClockRiver.mostOfRule -/
def X11_mostOfRule (a0 : Int32) (μ : sM) : Option (Int32 × sM) :=
  if a0 = 3 then
    some (9, μ)
  else if a0 = 4 then
    some (99, μ)
  else if a0 = 5 then
    some (16, μ)
  else
    some ((-1), μ)
theorem tX11_mostOfRule (a0 : Int32) (μ : sM) : sMt yX11_mostOfRule cX11_mostOfRule 1 (some .int) 1 [vi a0] μ (oI (X11_mostOfRule a0 μ)) := by
  refine sMt_of (own := 11) (bl := false) (by decide +kernel) rfl (Nat.le_of_ble_eq_true rfl) (fun r ρ h => ?_) ?_
  · obtain ⟨q, -, hq⟩ := Option.map_eq_some_iff.mp h
    cases hq
    exact Or.inl rfl
  · unfold X11_mostOfRule
    show sOk 11 cX11_mostOfRule 1 1 false 0 [(0, vi a0)] [] μ _
    refine sBk (lo' := [(0, vi a0)]) (st' := [vi a0]) (μ' := μ) (pc' := 1) [(.iload_n 0, 0, 0, 0, 0)] (by decide +kernel) rfl rfl ?_
    refine sTs (ps := [(3, 28), (4, 31), (5, 34)]) (df := 37) (by decide +kernel) ?_
    refine sSc oI (fun _ => ?_) (fun _ => ?_)
    · refine sBk (lo' := [(0, vi a0)]) (st' := [vi 9]) (μ' := μ) (pc' := 30) [(.bipush 9, 0, 0, 9, 0)] (by decide +kernel) rfl rfl ?_
      exact sRi (by decide +kernel) (fun h => by cases h)
    refine sSc oI (fun _ => ?_) (fun _ => ?_)
    · refine sBk (lo' := [(0, vi a0)]) (st' := [vi 99]) (μ' := μ) (pc' := 33) [(.bipush 99, 0, 0, 99, 0)] (by decide +kernel) rfl rfl ?_
      exact sRi (by decide +kernel) (fun h => by cases h)
    refine sSc oI (fun _ => ?_) (fun _ => ?_)
    · refine sBk (lo' := [(0, vi a0)]) (st' := [vi 16]) (μ' := μ) (pc' := 36) [(.bipush 16, 0, 0, 16, 0)] (by decide +kernel) rfl rfl ?_
      exact sRi (by decide +kernel) (fun h => by cases h)
    refine sSd ?_
    refine sBk (lo' := [(0, vi a0)]) (st' := [vi (-1)]) (μ' := μ) (pc' := 38) [(.iconst (-1), 0, 0, (-1), 0)] (by decide +kernel) rfl rfl ?_
    exact sRi (by decide +kernel) (fun h => by cases h)
/-! ClockRiver.rule -/
def X11_rule_J12 (μ : sM) : Option (Int32 × sM) :=
  bI (X11_deny 5 μ) fun x1 μ2 =>
    if x1 = 0 ∨ x1 = 1 then some (x1, μ2) else none
theorem X11_rule_J12_ok (μ : sM) : sOk 11 cX11_rule 3 2 true 12 [(0, vr 12 0)] [] μ (oI (X11_rule_J12 μ)) := by
  unfold X11_rule_J12
  refine sBk (lo' := [(0, vr 12 0)]) (st' := [vi 5, vr 12 0]) (μ' := μ) (pc' := 14) [(.aload_n 0, 0, 0, 0, 0), (.iconst 5, 0, 0, 5, 0)] (by decide +kernel) rfl rfl ?_
  refine sCvI oI rfl (ci := 11) (q := (12, 0)) (avs := [vi 5]) (rest := []) (tX11_deny 5 μ) (by decide) (by decide +kernel) lk_11_91 yv_X11_deny rfl (by decide) rfl rfl rfl (Nat.le_of_ble_eq_true rfl) (fun x1 μ2 => ?_)
  exact sCk oI rfl (fun h => sRi (by decide +kernel) (fun _ => h))
def X11_rule_J58 (μ : sM) : Option (Int32 × sM) :=
  bI (X11_grant μ) fun x1 μ2 =>
    if x1 = 0 ∨ x1 = 1 then some (x1, μ2) else none
theorem X11_rule_J58_ok (μ : sM) : sOk 11 cX11_rule 3 2 true 58 [(0, vr 12 0)] [] μ (oI (X11_rule_J58 μ)) := by
  unfold X11_rule_J58
  refine sBk (lo' := [(0, vr 12 0)]) (st' := [vr 12 0]) (μ' := μ) (pc' := 59) [(.aload_n 0, 0, 0, 0, 0)] (by decide +kernel) rfl rfl ?_
  refine sCvI oI rfl (ci := 11) (q := (12, 0)) (avs := []) (rest := []) (tX11_grant μ) (by decide) (by decide +kernel) lk_11_98 yv_X11_grant rfl (by decide) rfl rfl rfl (Nat.le_of_ble_eq_true rfl) (fun x1 μ2 => ?_)
  exact sCk oI rfl (fun h => sRi (by decide +kernel) (fun _ => h))
def X11_rule (a1 : Int32) (a2 : Int32) (μ : sM) : Option (Int32 × sM) :=
  if a2 < 0 then
    X11_rule_J12 μ
  else
    bI (X11_mostOfRule a1 μ) fun x1 μ2 =>
      if a2 ≤ x1 then
        if a1 = 3 then
          X11_rule_J58 (wI μ2 5 0 1 a2)
        else
          if a1 = 4 then
            X11_rule_J58 (wI μ2 5 0 2 a2)
          else
            X11_rule_J58 (wI μ2 5 0 3 a2)
      else
        X11_rule_J12 μ2
theorem tX11_rule (a1 : Int32) (a2 : Int32) (μ : sM) : sMt yX11_rule cX11_rule 3 (some .boolean) 2 [vr 12 0, vi a1, vi a2] μ (oI (X11_rule a1 a2 μ)) := by
  refine sMt_of (own := 11) (bl := true) (by decide +kernel) rfl (Nat.le_of_ble_eq_true rfl) (fun r ρ h => ?_) ?_
  · obtain ⟨q, -, hq⟩ := Option.map_eq_some_iff.mp h
    cases hq
    exact Or.inr ⟨rfl, rfl⟩
  · unfold X11_rule
    show sOk 11 cX11_rule 3 2 true 0 [(0, vr 12 0), (1, vi a1), (2, vi a2)] [] μ _
    refine sBk (lo' := [(0, vr 12 0), (1, vi a1), (2, vi a2)]) (st' := [vi a2]) (μ' := μ) (pc' := 1) [(.iload_n 2, 0, 0, 0, 0)] (by decide +kernel) rfl rfl ?_
    refine sIf_lt oI (off := 11) (tgt := 12) (by decide +kernel) (by decide) (fun _ => ?_) (fun _ => ?_)
    · refine sWk (lo' := [(0, vr 12 0)]) [0] rfl ?_
      exact X11_rule_J12_ok μ
    · refine sBk (lo' := [(0, vr 12 0), (1, vi a1), (2, vi a2)]) (st' := [vi a1, vi a2]) (μ' := μ) (pc' := 6) [(.iload_n 2, 0, 0, 0, 0), (.iload_n 1, 0, 0, 0, 0)] (by decide +kernel) rfl rfl ?_
      refine sCsI oI rfl (avs := [vi a1]) (rest := [vi a2]) (tX11_mostOfRule a1 μ) (by decide) (by decide +kernel) lk_11_286 ys_X11_mostOfRule rfl rfl (Nat.le_of_ble_eq_true rfl) (fun x1 μ2 => ?_)
      refine sIc_le oI (off := 9) (tgt := 18) (by decide +kernel) (by decide) (fun _ => ?_) (fun _ => ?_)
      · refine sBk (lo' := [(0, vr 12 0), (1, vi a1), (2, vi a2)]) (st' := [vi 3, vi a1]) (μ' := μ2) (pc' := 20) [(.iload_n 1, 0, 0, 0, 0), (.iconst 3, 0, 0, 3, 0)] (by decide +kernel) rfl rfl ?_
        refine sIc_ne oI (off := 14) (tgt := 34) (by decide +kernel) (by decide) (fun _ => ?_) (fun _ => ?_)
        · refine sBk (lo' := [(0, vr 12 0), (1, vi a1), (2, vi a2)]) (st' := [vi 4, vi a1]) (μ' := μ2) (pc' := 36) [(.iload_n 1, 0, 0, 0, 0), (.iconst 4, 0, 0, 4, 0)] (by decide +kernel) rfl rfl ?_
          refine sIc_ne oI (off := 14) (tgt := 50) (by decide +kernel) (by decide) (fun _ => ?_) (fun _ => ?_)
          · refine sBk (lo' := [(0, vr 12 0), (1, vi a1), (2, vi a2)]) (st' := []) (μ' := wI μ2 5 0 3 a2) (pc' := 58) [(.aload_n 0, 0, 0, 0, 0), (.getfield 16, 11, 4, 0, 0), (.iload_n 2, 0, 0, 0, 0), (.putfield 295, 4, 3, 0, 0)] (by decide +kernel) rfl rfl ?_
            refine sWk (lo' := [(0, vr 12 0)]) [0] rfl ?_
            exact X11_rule_J58_ok (wI μ2 5 0 3 a2)
          · refine sBk (lo' := [(0, vr 12 0), (1, vi a1), (2, vi a2)]) (st' := []) (μ' := wI μ2 5 0 2 a2) (pc' := 47) [(.aload_n 0, 0, 0, 0, 0), (.getfield 16, 11, 4, 0, 0), (.iload_n 2, 0, 0, 0, 0), (.putfield 292, 4, 2, 0, 0)] (by decide +kernel) rfl rfl ?_
            refine sGt (off := 11) (tgt := 58) (by decide +kernel) (by decide) ?_
            refine sWk (lo' := [(0, vr 12 0)]) [0] rfl ?_
            exact X11_rule_J58_ok (wI μ2 5 0 2 a2)
        · refine sBk (lo' := [(0, vr 12 0), (1, vi a1), (2, vi a2)]) (st' := []) (μ' := wI μ2 5 0 1 a2) (pc' := 31) [(.aload_n 0, 0, 0, 0, 0), (.getfield 16, 11, 4, 0, 0), (.iload_n 2, 0, 0, 0, 0), (.putfield 289, 4, 1, 0, 0)] (by decide +kernel) rfl rfl ?_
          refine sGt (off := 27) (tgt := 58) (by decide +kernel) (by decide) ?_
          refine sWk (lo' := [(0, vr 12 0)]) [0] rfl ?_
          exact X11_rule_J58_ok (wI μ2 5 0 1 a2)
      · refine sWk (lo' := [(0, vr 12 0)]) [0] rfl ?_
        exact X11_rule_J12_ok μ2
/-! ClockRiver.build -/
def X11_build_J28 (μ : sM) : Option (Int32 × sM) :=
  bI (X11_refuse 5 μ) fun x1 μ2 =>
    some (x1, μ2)
theorem X11_build_J28_ok (μ : sM) : sOk 11 cX11_build 3 2 false 28 [(0, vr 12 0)] [] μ (oI (X11_build_J28 μ)) := by
  unfold X11_build_J28
  refine sBk (lo' := [(0, vr 12 0)]) (st' := [vi 5, vr 12 0]) (μ' := μ) (pc' := 30) [(.aload_n 0, 0, 0, 0, 0), (.iconst 5, 0, 0, 5, 0)] (by decide +kernel) rfl rfl ?_
  refine sCvI oI rfl (ci := 11) (q := (12, 0)) (avs := [vi 5]) (rest := []) (tX11_refuse 5 μ) (by decide) (by decide +kernel) lk_11_110 yv_X11_refuse rfl (by decide) rfl rfl rfl (Nat.le_of_ble_eq_true rfl) (fun x1 μ2 => ?_)
  exact sRi (by decide +kernel) (fun h => by cases h)
def X11_build (a1 : Int32) (a2 : Int32) (μ : sM) : Option (Int32 × sM) :=
  bI (X4_hasReach 0 a1 μ) fun x1 μ2 =>
    if x1 = 0 then
      bI (X11_refuse 2 μ2) fun x9 μ10 =>
        some (x9, μ10)
    else
      if a2 < 1 then
        X11_build_J28 μ2
      else
        if a2 ≤ 99 then
          if (rI μ2 3 0 0) < 6 then
            bV (X2_add 0 0 a1 a2 μ2) fun μ4 =>
              bI (X11_give ((rI μ4 3 0 0) - 1) μ4) fun x5 μ6 =>
                some (x5, μ6)
          else
            bI (X11_refuse 7 μ2) fun x7 μ8 =>
              some (x7, μ8)
        else
          X11_build_J28 μ2
theorem tX11_build (a1 : Int32) (a2 : Int32) (μ : sM) : sMt yX11_build cX11_build 3 (some .int) 2 [vr 12 0, vi a1, vi a2] μ (oI (X11_build a1 a2 μ)) := by
  refine sMt_of (own := 11) (bl := false) (by decide +kernel) rfl (Nat.le_of_ble_eq_true rfl) (fun r ρ h => ?_) ?_
  · obtain ⟨q, -, hq⟩ := Option.map_eq_some_iff.mp h
    cases hq
    exact Or.inl rfl
  · unfold X11_build
    show sOk 11 cX11_build 3 2 false 0 [(0, vr 12 0), (1, vi a1), (2, vi a2)] [] μ _
    refine sBk (lo' := [(0, vr 12 0), (1, vi a1), (2, vi a2)]) (st' := [vi a1, vr 5 0]) (μ' := μ) (pc' := 5) [(.aload_n 0, 0, 0, 0, 0), (.getfield 16, 11, 4, 0, 0), (.iload_n 1, 0, 0, 0, 0)] (by decide +kernel) rfl rfl ?_
    refine sCvI oI rfl (ci := 4) (q := (5, 0)) (avs := [vi a1]) (rest := []) (tX4_hasReach 0 a1 μ) (by decide) (by decide +kernel) lk_11_200 yv_X4_hasReach rfl (by decide) rfl rfl rfl (Nat.le_of_ble_eq_true rfl) (fun x1 μ2 => ?_)
    refine sIf_ne oI (off := 9) (tgt := 17) (by decide +kernel) (by decide) (fun _ => ?_) (fun _ => ?_)
    · refine sBk (lo' := [(0, vr 12 0), (1, vi a1), (2, vi a2)]) (st' := [vi 1, vi a2]) (μ' := μ2) (pc' := 19) [(.iload_n 2, 0, 0, 0, 0), (.iconst 1, 0, 0, 1, 0)] (by decide +kernel) rfl rfl ?_
      refine sIc_lt oI (off := 9) (tgt := 28) (by decide +kernel) (by decide) (fun _ => ?_) (fun _ => ?_)
      · refine sWk (lo' := [(0, vr 12 0)]) [0] rfl ?_
        exact X11_build_J28_ok μ2
      · refine sBk (lo' := [(0, vr 12 0), (1, vi a1), (2, vi a2)]) (st' := [vi 99, vi a2]) (μ' := μ2) (pc' := 25) [(.iload_n 2, 0, 0, 0, 0), (.bipush 99, 0, 0, 99, 0)] (by decide +kernel) rfl rfl ?_
        refine sIc_le oI (off := 9) (tgt := 34) (by decide +kernel) (by decide) (fun _ => ?_) (fun _ => ?_)
        · refine sBk (lo' := [(0, vr 12 0), (1, vi a1), (2, vi a2)]) (st' := [vi 6, vi (rI μ2 3 0 0)]) (μ' := μ2) (pc' := 46) [(.aload_n 0, 0, 0, 0, 0), (.getfield 16, 11, 4, 0, 0), (.getfield 217, 4, 9, 0, 0), (.getfield 298, 2, 0, 0, 0), (.bipush 6, 0, 0, 6, 0)] (by decide +kernel) rfl rfl ?_
          refine sIc_lt oI (off := 10) (tgt := 56) (by decide +kernel) (by decide) (fun _ => ?_) (fun _ => ?_)
          · refine sBk (lo' := [(0, vr 12 0), (1, vi a1), (2, vi a2)]) (st' := [vi a2, vi a1, vl 0, vr 3 0]) (μ' := μ2) (pc' := 66) [(.aload_n 0, 0, 0, 0, 0), (.getfield 16, 11, 4, 0, 0), (.getfield 217, 4, 9, 0, 0), (.lconst 0, 0, 0, 0, 0), (.iload_n 1, 0, 0, 0, 0), (.iload_n 2, 0, 0, 0, 0)] (by decide +kernel) rfl rfl ?_
            refine sCvV oI rfl (ci := 2) (q := (3, 0)) (avs := [vl 0, vi a1, vi a2]) (rest := []) (tX2_add 0 0 a1 a2 μ2) (by decide) (by decide +kernel) lk_11_299 yv_X2_add rfl (by decide) rfl rfl rfl (Nat.le_of_ble_eq_true rfl) (fun μ4 => ?_)
            refine sBk (lo' := [(0, vr 12 0), (1, vi a1), (2, vi a2)]) (st' := [vi ((rI μ4 3 0 0) - 1), vr 12 0]) (μ' := μ4) (pc' := 82) [(.aload_n 0, 0, 0, 0, 0), (.aload_n 0, 0, 0, 0, 0), (.getfield 16, 11, 4, 0, 0), (.getfield 217, 4, 9, 0, 0), (.getfield 298, 2, 0, 0, 0), (.iconst 1, 0, 0, 1, 0), (.isub, 0, 0, 0, 0)] (by decide +kernel) rfl rfl ?_
            refine sCvI oI rfl (ci := 11) (q := (12, 0)) (avs := [vi ((rI μ4 3 0 0) - 1)]) (rest := []) (tX11_give ((rI μ4 3 0 0) - 1) μ4) (by decide) (by decide +kernel) lk_11_169 yv_X11_give rfl (by decide) rfl rfl rfl (Nat.le_of_ble_eq_true rfl) (fun x5 μ6 => ?_)
            exact sRi (by decide +kernel) (fun h => by cases h)
          · refine sBk (lo' := [(0, vr 12 0), (1, vi a1), (2, vi a2)]) (st' := [vi 7, vr 12 0]) (μ' := μ2) (pc' := 52) [(.aload_n 0, 0, 0, 0, 0), (.bipush 7, 0, 0, 7, 0)] (by decide +kernel) rfl rfl ?_
            refine sCvI oI rfl (ci := 11) (q := (12, 0)) (avs := [vi 7]) (rest := []) (tX11_refuse 7 μ2) (by decide) (by decide +kernel) lk_11_110 yv_X11_refuse rfl (by decide) rfl rfl rfl (Nat.le_of_ble_eq_true rfl) (fun x7 μ8 => ?_)
            exact sRi (by decide +kernel) (fun h => by cases h)
        · refine sWk (lo' := [(0, vr 12 0)]) [0] rfl ?_
          exact X11_build_J28_ok μ2
    · refine sBk (lo' := [(0, vr 12 0), (1, vi a1), (2, vi a2)]) (st' := [vi 2, vr 12 0]) (μ' := μ2) (pc' := 13) [(.aload_n 0, 0, 0, 0, 0), (.iconst 2, 0, 0, 2, 0)] (by decide +kernel) rfl rfl ?_
      refine sCvI oI rfl (ci := 11) (q := (12, 0)) (avs := [vi 2]) (rest := []) (tX11_refuse 2 μ2) (by decide) (by decide +kernel) lk_11_110 yv_X11_refuse rfl (by decide) rfl rfl rfl (Nat.le_of_ble_eq_true rfl) (fun x9 μ10 => ?_)
      exact sRi (by decide +kernel) (fun h => by cases h)
/-! ClockRiver.train -/
def X11_train_J28 (μ : sM) : Option (Int32 × sM) :=
  bI (X11_deny 5 μ) fun x1 μ2 =>
    if x1 = 0 ∨ x1 = 1 then some (x1, μ2) else none
theorem X11_train_J28_ok (μ : sM) : sOk 11 cX11_train 3 2 true 28 [(0, vr 12 0)] [] μ (oI (X11_train_J28 μ)) := by
  unfold X11_train_J28
  refine sBk (lo' := [(0, vr 12 0)]) (st' := [vi 5, vr 12 0]) (μ' := μ) (pc' := 30) [(.aload_n 0, 0, 0, 0, 0), (.iconst 5, 0, 0, 5, 0)] (by decide +kernel) rfl rfl ?_
  refine sCvI oI rfl (ci := 11) (q := (12, 0)) (avs := [vi 5]) (rest := []) (tX11_deny 5 μ) (by decide) (by decide +kernel) lk_11_91 yv_X11_deny rfl (by decide) rfl rfl rfl (Nat.le_of_ble_eq_true rfl) (fun x1 μ2 => ?_)
  exact sCk oI rfl (fun h => sRi (by decide +kernel) (fun _ => h))
def X11_train (a1 : Int32) (a2 : Int32) (μ : sM) : Option (Int32 × sM) :=
  bI (X4_hasWinder 0 a1 μ) fun x1 μ2 =>
    if x1 = 0 then
      bI (X11_deny 2 μ2) fun x5 μ6 =>
        if x5 = 0 ∨ x5 = 1 then some (x5, μ6) else none
    else
      if a2 < 1 then
        X11_train_J28 μ2
      else
        if a2 ≤ 40 then
          if inb a1 6 = true then
            bI (X11_grant (wI μ2 51 0 (ix a1) a2)) fun x3 μ4 =>
              if x3 = 0 ∨ x3 = 1 then some (x3, μ4) else none
          else none
        else
          X11_train_J28 μ2
theorem tX11_train (a1 : Int32) (a2 : Int32) (μ : sM) : sMt yX11_train cX11_train 3 (some .boolean) 2 [vr 12 0, vi a1, vi a2] μ (oI (X11_train a1 a2 μ)) := by
  refine sMt_of (own := 11) (bl := true) (by decide +kernel) rfl (Nat.le_of_ble_eq_true rfl) (fun r ρ h => ?_) ?_
  · obtain ⟨q, -, hq⟩ := Option.map_eq_some_iff.mp h
    cases hq
    exact Or.inr ⟨rfl, rfl⟩
  · unfold X11_train
    show sOk 11 cX11_train 3 2 true 0 [(0, vr 12 0), (1, vi a1), (2, vi a2)] [] μ _
    refine sBk (lo' := [(0, vr 12 0), (1, vi a1), (2, vi a2)]) (st' := [vi a1, vr 5 0]) (μ' := μ) (pc' := 5) [(.aload_n 0, 0, 0, 0, 0), (.getfield 16, 11, 4, 0, 0), (.iload_n 1, 0, 0, 0, 0)] (by decide +kernel) rfl rfl ?_
    refine sCvI oI rfl (ci := 4) (q := (5, 0)) (avs := [vi a1]) (rest := []) (tX4_hasWinder 0 a1 μ) (by decide) (by decide +kernel) lk_11_238 yv_X4_hasWinder rfl (by decide) rfl rfl rfl (Nat.le_of_ble_eq_true rfl) (fun x1 μ2 => ?_)
    refine sIf_ne oI (off := 9) (tgt := 17) (by decide +kernel) (by decide) (fun _ => ?_) (fun _ => ?_)
    · refine sBk (lo' := [(0, vr 12 0), (1, vi a1), (2, vi a2)]) (st' := [vi 1, vi a2]) (μ' := μ2) (pc' := 19) [(.iload_n 2, 0, 0, 0, 0), (.iconst 1, 0, 0, 1, 0)] (by decide +kernel) rfl rfl ?_
      refine sIc_lt oI (off := 9) (tgt := 28) (by decide +kernel) (by decide) (fun _ => ?_) (fun _ => ?_)
      · refine sWk (lo' := [(0, vr 12 0)]) [0] rfl ?_
        exact X11_train_J28_ok μ2
      · refine sBk (lo' := [(0, vr 12 0), (1, vi a1), (2, vi a2)]) (st' := [vi 40, vi a2]) (μ' := μ2) (pc' := 25) [(.iload_n 2, 0, 0, 0, 0), (.bipush 40, 0, 0, 40, 0)] (by decide +kernel) rfl rfl ?_
        refine sIc_le oI (off := 9) (tgt := 34) (by decide +kernel) (by decide) (fun _ => ?_) (fun _ => ?_)
        · refine sBk (lo' := [(0, vr 12 0), (1, vi a1), (2, vi a2)]) (st' := [vi a2, vi a1, vr 51 0]) (μ' := μ2) (pc' := 46) [(.aload_n 0, 0, 0, 0, 0), (.getfield 16, 11, 4, 0, 0), (.getfield 241, 4, 10, 0, 0), (.getfield 245, 10, 2, 0, 0), (.iload_n 1, 0, 0, 0, 0), (.iload_n 2, 0, 0, 0, 0)] (by decide +kernel) rfl rfl ?_
          refine sS_ias oI rfl (n := 6) (j := (ix a1)) (by decide +kernel) rfl rfl rfl (fun _ => ?_)
          refine sBk (lo' := [(0, vr 12 0), (1, vi a1), (2, vi a2)]) (st' := [vr 12 0]) (μ' := wI μ2 51 0 (ix a1) a2) (pc' := 48) [(.aload_n 0, 0, 0, 0, 0)] (by decide +kernel) rfl rfl ?_
          refine sCvI oI rfl (ci := 11) (q := (12, 0)) (avs := []) (rest := []) (tX11_grant (wI μ2 51 0 (ix a1) a2)) (by decide) (by decide +kernel) lk_11_98 yv_X11_grant rfl (by decide) rfl rfl rfl (Nat.le_of_ble_eq_true rfl) (fun x3 μ4 => ?_)
          exact sCk oI rfl (fun h => sRi (by decide +kernel) (fun _ => h))
        · refine sWk (lo' := [(0, vr 12 0)]) [0] rfl ?_
          exact X11_train_J28_ok μ2
    · refine sBk (lo' := [(0, vr 12 0), (1, vi a1), (2, vi a2)]) (st' := [vi 2, vr 12 0]) (μ' := μ2) (pc' := 13) [(.aload_n 0, 0, 0, 0, 0), (.iconst 2, 0, 0, 2, 0)] (by decide +kernel) rfl rfl ?_
      refine sCvI oI rfl (ci := 11) (q := (12, 0)) (avs := [vi 2]) (rest := []) (tX11_deny 2 μ2) (by decide) (by decide +kernel) lk_11_91 yv_X11_deny rfl (by decide) rfl rfl rfl (Nat.le_of_ble_eq_true rfl) (fun x5 μ6 => ?_)
      exact sCk oI rfl (fun h => sRi (by decide +kernel) (fun _ => h))
/-! ClockRiver.isTooFar -/
def X11_isTooFar (a0 : Int32) (μ : sM) : Option (Int32 × sM) :=
  if a0 < 0 then
    some (1, μ)
  else
    if a0 ≤ 500 then
      some (0, μ)
    else
      some (1, μ)
theorem tX11_isTooFar (a0 : Int32) (μ : sM) : sMt yX11_isTooFar cX11_isTooFar 1 (some .boolean) 1 [vi a0] μ (oI (X11_isTooFar a0 μ)) := by
  refine sMt_of (own := 11) (bl := true) (by decide +kernel) rfl (Nat.le_of_ble_eq_true rfl) (fun r ρ h => ?_) ?_
  · obtain ⟨q, -, hq⟩ := Option.map_eq_some_iff.mp h
    cases hq
    exact Or.inr ⟨rfl, rfl⟩
  · unfold X11_isTooFar
    show sOk 11 cX11_isTooFar 1 1 true 0 [(0, vi a0)] [] μ _
    refine sBk (lo' := [(0, vi a0)]) (st' := [vi a0]) (μ' := μ) (pc' := 1) [(.iload_n 0, 0, 0, 0, 0)] (by decide +kernel) rfl rfl ?_
    refine sIf_lt oI (off := 10) (tgt := 11) (by decide +kernel) (by decide) (fun _ => ?_) (fun _ => ?_)
    · refine sBk (lo' := [(0, vi a0)]) (st' := [vi 1]) (μ' := μ) (pc' := 12) [(.iconst 1, 0, 0, 1, 0)] (by decide +kernel) rfl rfl ?_
      refine sGt (off := 4) (tgt := 16) (by decide +kernel) (by decide) ?_
      exact sRi (by decide +kernel) (fun _ => Or.inr rfl)
    · refine sBk (lo' := [(0, vi a0)]) (st' := [vi 500, vi a0]) (μ' := μ) (pc' := 8) [(.iload_n 0, 0, 0, 0, 0), (.sipush 500, 0, 0, 500, 0)] (by decide +kernel) rfl rfl ?_
      refine sIc_le oI (off := 7) (tgt := 15) (by decide +kernel) (by decide) (fun _ => ?_) (fun _ => ?_)
      · refine sBk (lo' := [(0, vi a0)]) (st' := [vi 0]) (μ' := μ) (pc' := 16) [(.iconst 0, 0, 0, 0, 0)] (by decide +kernel) rfl rfl ?_
        exact sRi (by decide +kernel) (fun _ => Or.inl rfl)
      · refine sBk (lo' := [(0, vi a0)]) (st' := [vi 1]) (μ' := μ) (pc' := 12) [(.iconst 1, 0, 0, 1, 0)] (by decide +kernel) rfl rfl ?_
        refine sGt (off := 4) (tgt := 16) (by decide +kernel) (by decide) ?_
        exact sRi (by decide +kernel) (fun _ => Or.inr rfl)
/-! ClockRiver.turnsIn -/
def X11_turnsIn (a1 : Int32) (μ : sM) : Option (Int32 × sM) :=
  bI (X11_isTooFar a1 μ) fun x1 μ2 =>
    if x1 = 0 then
      bA (X0_later 0 a1 μ2) fun x3 μ4 =>
        bI (X11_give (rI μ4 5 x3 0) μ4) fun x5 μ6 =>
          some (x5, μ6)
    else
      bI (X11_refuse 5 μ2) fun x7 μ8 =>
        some (x7, μ8)
theorem tX11_turnsIn (a1 : Int32) (μ : sM) : sMt yX11_turnsIn cX11_turnsIn 2 (some .int) 5 [vr 12 0, vi a1] μ (oI (X11_turnsIn a1 μ)) := by
  refine sMt_of (own := 11) (bl := false) (by decide +kernel) rfl (Nat.le_of_ble_eq_true rfl) (fun r ρ h => ?_) ?_
  · obtain ⟨q, -, hq⟩ := Option.map_eq_some_iff.mp h
    cases hq
    exact Or.inl rfl
  · unfold X11_turnsIn
    show sOk 11 cX11_turnsIn 2 5 false 0 [(0, vr 12 0), (1, vi a1)] [] μ _
    refine sBk (lo' := [(0, vr 12 0), (1, vi a1)]) (st' := [vi a1]) (μ' := μ) (pc' := 1) [(.iload_n 1, 0, 0, 0, 0)] (by decide +kernel) rfl rfl ?_
    refine sCsI oI rfl (avs := [vi a1]) (rest := []) (tX11_isTooFar a1 μ) (by decide) (by decide +kernel) lk_11_303 ys_X11_isTooFar rfl rfl (Nat.le_of_ble_eq_true rfl) (fun x1 μ2 => ?_)
    refine sIf_eq oI (off := 9) (tgt := 13) (by decide +kernel) (by decide) (fun _ => ?_) (fun _ => ?_)
    · refine sBk (lo' := [(0, vr 12 0), (1, vi a1)]) (st' := [vi a1, vr 5 0, vr 1 0, vr 12 0]) (μ' := μ2) (pc' := 23) [(.aload_n 0, 0, 0, 0, 0), (.aload_n 0, 0, 0, 0, 0), (.getfield 66, 11, 12, 0, 0), (.aload_n 0, 0, 0, 0, 0), (.getfield 16, 11, 4, 0, 0), (.iload_n 1, 0, 0, 0, 0)] (by decide +kernel) rfl rfl ?_
      refine sCvA oI rfl (ci := 0) (q := (1, 0)) (avs := [vr 5 0, vi a1]) (rest := [vr 12 0]) (tX0_later 0 a1 μ2) (by decide) (by decide +kernel) lk_11_306 yv_X0_later rfl (by decide) rfl rfl rfl (Nat.le_of_ble_eq_true rfl) (fun x3 μ4 => ?_)
      refine sBk (lo' := [(0, vr 12 0), (1, vi a1)]) (st' := [vi (rI μ4 5 x3 0), vr 12 0]) (μ' := μ4) (pc' := 29) [(.getfield 193, 4, 0, 0, 0)] (by decide +kernel) rfl rfl ?_
      refine sCvI oI rfl (ci := 11) (q := (12, 0)) (avs := [vi (rI μ4 5 x3 0)]) (rest := []) (tX11_give (rI μ4 5 x3 0) μ4) (by decide) (by decide +kernel) lk_11_169 yv_X11_give rfl (by decide) rfl rfl rfl (Nat.le_of_ble_eq_true rfl) (fun x5 μ6 => ?_)
      exact sRi (by decide +kernel) (fun h => by cases h)
    · refine sBk (lo' := [(0, vr 12 0), (1, vi a1)]) (st' := [vi 5, vr 12 0]) (μ' := μ2) (pc' := 9) [(.aload_n 0, 0, 0, 0, 0), (.iconst 5, 0, 0, 5, 0)] (by decide +kernel) rfl rfl ?_
      refine sCvI oI rfl (ci := 11) (q := (12, 0)) (avs := [vi 5]) (rest := []) (tX11_refuse 5 μ2) (by decide) (by decide +kernel) lk_11_110 yv_X11_refuse rfl (by decide) rfl rfl rfl (Nat.le_of_ble_eq_true rfl) (fun x7 μ8 => ?_)
      exact sRi (by decide +kernel) (fun h => by cases h)
/-! ClockRiver.storedIn -/
def X11_storedIn (a1 : Int32) (a2 : Int32) (μ : sM) : Option (Int32 × sM) :=
  bI (X4_hasReach 0 a1 μ) fun x1 μ2 =>
    if x1 = 0 then
      bI (X11_refuse 2 μ2) fun x11 μ12 =>
        some (x11, μ12)
    else
      bI (X11_isTooFar a2 μ2) fun x3 μ4 =>
        if x3 = 0 then
          bA (X0_later 0 a2 μ4) fun x5 μ6 =>
            if inb a1 6 = true then
              bI (X11_give (rI μ6 31 x5 (ix a1)) μ6) fun x7 μ8 =>
                some (x7, μ8)
            else none
        else
          bI (X11_refuse 5 μ4) fun x9 μ10 =>
            some (x9, μ10)
theorem tX11_storedIn (a1 : Int32) (a2 : Int32) (μ : sM) : sMt yX11_storedIn cX11_storedIn 3 (some .int) 5 [vr 12 0, vi a1, vi a2] μ (oI (X11_storedIn a1 a2 μ)) := by
  refine sMt_of (own := 11) (bl := false) (by decide +kernel) rfl (Nat.le_of_ble_eq_true rfl) (fun r ρ h => ?_) ?_
  · obtain ⟨q, -, hq⟩ := Option.map_eq_some_iff.mp h
    cases hq
    exact Or.inl rfl
  · unfold X11_storedIn
    show sOk 11 cX11_storedIn 3 5 false 0 [(0, vr 12 0), (1, vi a1), (2, vi a2)] [] μ _
    refine sBk (lo' := [(0, vr 12 0), (1, vi a1), (2, vi a2)]) (st' := [vi a1, vr 5 0]) (μ' := μ) (pc' := 5) [(.aload_n 0, 0, 0, 0, 0), (.getfield 16, 11, 4, 0, 0), (.iload_n 1, 0, 0, 0, 0)] (by decide +kernel) rfl rfl ?_
    refine sCvI oI rfl (ci := 4) (q := (5, 0)) (avs := [vi a1]) (rest := []) (tX4_hasReach 0 a1 μ) (by decide) (by decide +kernel) lk_11_200 yv_X4_hasReach rfl (by decide) rfl rfl rfl (Nat.le_of_ble_eq_true rfl) (fun x1 μ2 => ?_)
    refine sIf_ne oI (off := 9) (tgt := 17) (by decide +kernel) (by decide) (fun _ => ?_) (fun _ => ?_)
    · refine sBk (lo' := [(0, vr 12 0), (1, vi a1), (2, vi a2)]) (st' := [vi a2]) (μ' := μ2) (pc' := 18) [(.iload_n 2, 0, 0, 0, 0)] (by decide +kernel) rfl rfl ?_
      refine sCsI oI rfl (avs := [vi a2]) (rest := []) (tX11_isTooFar a2 μ2) (by decide) (by decide +kernel) lk_11_303 ys_X11_isTooFar rfl rfl (Nat.le_of_ble_eq_true rfl) (fun x3 μ4 => ?_)
      refine sIf_eq oI (off := 9) (tgt := 30) (by decide +kernel) (by decide) (fun _ => ?_) (fun _ => ?_)
      · refine sBk (lo' := [(0, vr 12 0), (1, vi a1), (2, vi a2)]) (st' := [vi a2, vr 5 0, vr 1 0, vr 12 0]) (μ' := μ4) (pc' := 40) [(.aload_n 0, 0, 0, 0, 0), (.aload_n 0, 0, 0, 0, 0), (.getfield 66, 11, 12, 0, 0), (.aload_n 0, 0, 0, 0, 0), (.getfield 16, 11, 4, 0, 0), (.iload_n 2, 0, 0, 0, 0)] (by decide +kernel) rfl rfl ?_
        refine sCvA oI rfl (ci := 0) (q := (1, 0)) (avs := [vr 5 0, vi a2]) (rest := [vr 12 0]) (tX0_later 0 a2 μ4) (by decide) (by decide +kernel) lk_11_306 yv_X0_later rfl (by decide) rfl rfl rfl (Nat.le_of_ble_eq_true rfl) (fun x5 μ6 => ?_)
        refine sBk (lo' := [(0, vr 12 0), (1, vi a1), (2, vi a2)]) (st' := [vi a1, vr 31 x5, vr 12 0]) (μ' := μ6) (pc' := 50) [(.getfield 160, 4, 8, 0, 0), (.getfield 209, 3, 4, 0, 0), (.iload_n 1, 0, 0, 0, 0)] (by decide +kernel) rfl rfl ?_
        refine sS_ial oI rfl (n := 6) (j := (ix a1)) (by decide +kernel) rfl rfl rfl (fun _ => ?_)
        refine sCvI oI rfl (ci := 11) (q := (12, 0)) (avs := [vi (rI μ6 31 x5 (ix a1))]) (rest := []) (tX11_give (rI μ6 31 x5 (ix a1)) μ6) (by decide) (by decide +kernel) lk_11_169 yv_X11_give rfl (by decide) rfl rfl rfl (Nat.le_of_ble_eq_true rfl) (fun x7 μ8 => ?_)
        exact sRi (by decide +kernel) (fun h => by cases h)
      · refine sBk (lo' := [(0, vr 12 0), (1, vi a1), (2, vi a2)]) (st' := [vi 5, vr 12 0]) (μ' := μ4) (pc' := 26) [(.aload_n 0, 0, 0, 0, 0), (.iconst 5, 0, 0, 5, 0)] (by decide +kernel) rfl rfl ?_
        refine sCvI oI rfl (ci := 11) (q := (12, 0)) (avs := [vi 5]) (rest := []) (tX11_refuse 5 μ4) (by decide) (by decide +kernel) lk_11_110 yv_X11_refuse rfl (by decide) rfl rfl rfl (Nat.le_of_ble_eq_true rfl) (fun x9 μ10 => ?_)
        exact sRi (by decide +kernel) (fun h => by cases h)
    · refine sBk (lo' := [(0, vr 12 0), (1, vi a1), (2, vi a2)]) (st' := [vi 2, vr 12 0]) (μ' := μ2) (pc' := 13) [(.aload_n 0, 0, 0, 0, 0), (.iconst 2, 0, 0, 2, 0)] (by decide +kernel) rfl rfl ?_
      refine sCvI oI rfl (ci := 11) (q := (12, 0)) (avs := [vi 2]) (rest := []) (tX11_refuse 2 μ2) (by decide) (by decide +kernel) lk_11_110 yv_X11_refuse rfl (by decide) rfl rfl rfl (Nat.le_of_ble_eq_true rfl) (fun x11 μ12 => ?_)
      exact sRi (by decide +kernel) (fun h => by cases h)
