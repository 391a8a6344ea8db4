theorem lk_12_120 : Cond.methodLink (kRn 12) 120 yX12_look2 ∈ sT := sT_in (n := 1671) (by decide +kernel) rfl
theorem lk_12_126 : Cond.methodLink (kRn 12) 126 yX12_isLetter ∈ sT := sT_in (n := 1675) (by decide +kernel) rfl
theorem lk_12_139 : Cond.methodLink (kRn 12) 139 yX12_isDigit ∈ sT := sT_in (n := 1680) (by decide +kernel) rfl
theorem lk_12_145 : Cond.methodLink (kRn 12) 145 yX12_isSignByte ∈ sT := sT_in (n := 1683) (by decide +kernel) rfl
theorem lk_12_244 : Cond.methodLink (kRn 12) 244 yX12_lay ∈ sT := sT_in (n := 1651) (by decide +kernel) rfl
theorem lk_12_87 : Cond.methodLink (kRn 12) 87 yX12_no ∈ sT := sT_in (n := 1619) (by decide +kernel) rfl
theorem lk_12_91 : Cond.methodLink (kRn 12) 91 yX12_trayed ∈ sT := sT_in (n := 1631) (by decide +kernel) rfl
theorem lk_12_95 : Cond.methodLink (kRn 12) 95 yX12_placed ∈ sT := sT_in (n := 1627) (by decide +kernel) rfl
theorem lk_12_99 : Cond.methodLink (kRn 12) 99 yX12_cut ∈ sT := sT_in (n := 1635) (by decide +kernel) rfl
theorem ys_X12_cut : yS yX12_cut cX12_cut 3 (some .long) 2 := ⟨⟨sT_in (n := 1637) (by decide +kernel) rfl, sT_in (n := 149) (by decide +kernel) rfl, by decide +kernel, by decide⟩, sT_in (n := 1636) (by decide +kernel) rfl⟩
theorem ys_X12_isDigit : yS yX12_isDigit cX12_isDigit 1 (some .boolean) 1 := ⟨⟨sT_in (n := 1682) (by decide +kernel) rfl, sT_in (n := 149) (by decide +kernel) rfl, by decide +kernel, by decide⟩, sT_in (n := 1681) (by decide +kernel) rfl⟩
theorem ys_X12_isLetter : yS yX12_isLetter cX12_isLetter 1 (some .boolean) 1 := ⟨⟨sT_in (n := 1677) (by decide +kernel) rfl, sT_in (n := 149) (by decide +kernel) rfl, by decide +kernel, by decide⟩, sT_in (n := 1676) (by decide +kernel) rfl⟩
theorem yv_X12_isSignByte : yV yX12_isSignByte cX12_isSignByte 2 (some .boolean) 1 := ⟨⟨sT_in (n := 1686) (by decide +kernel) rfl, sT_in (n := 149) (by decide +kernel) rfl, by decide +kernel, by decide⟩, sT_in (n := 1685) (by decide +kernel) rfl, sT_in (n := 53) (by decide +kernel) rfl⟩
theorem yv_X12_lay : yV yX12_lay cX12_lay 3 none 1 := ⟨⟨sT_in (n := 1654) (by decide +kernel) rfl, sT_in (n := 149) (by decide +kernel) rfl, by decide +kernel, by decide⟩, sT_in (n := 1653) (by decide +kernel) rfl, sT_in (n := 49) (by decide +kernel) rfl⟩
theorem yv_X12_look2 : yV yX12_look2 cX12_look2 2 (some .int) 1 := ⟨⟨sT_in (n := 1674) (by decide +kernel) rfl, sT_in (n := 149) (by decide +kernel) rfl, by decide +kernel, by decide⟩, sT_in (n := 1673) (by decide +kernel) rfl, sT_in (n := 52) (by decide +kernel) rfl⟩
theorem yv_X12_no : yV yX12_no cX12_no 2 (some .boolean) 1 := ⟨⟨sT_in (n := 1622) (by decide +kernel) rfl, sT_in (n := 149) (by decide +kernel) rfl, by decide +kernel, by decide⟩, sT_in (n := 1621) (by decide +kernel) rfl, sT_in (n := 46) (by decide +kernel) rfl⟩
theorem yv_X12_placed : yV yX12_placed cX12_placed 4 (some .int) 2 := ⟨⟨sT_in (n := 1630) (by decide +kernel) rfl, sT_in (n := 149) (by decide +kernel) rfl, by decide +kernel, by decide⟩, sT_in (n := 1629) (by decide +kernel) rfl, sT_in (n := 47) (by decide +kernel) rfl⟩
theorem yv_X12_trayed : yV yX12_trayed cX12_trayed 2 (some .int) 1 := ⟨⟨sT_in (n := 1634) (by decide +kernel) rfl, sT_in (n := 149) (by decide +kernel) rfl, by decide +kernel, by decide⟩, sT_in (n := 1633) (by decide +kernel) rfl, sT_in (n := 48) (by decide +kernel) rfl⟩
/-! ClockRiverModel.status -/
def X12_status (μ : sM) : Option (Int32 × sM) :=
  some ((rI μ 13 0 0), wI μ 13 0 1 0)
theorem tX12_status (μ : sM) : sMt yX12_status cX12_status 1 (some .int) 1 [vr 13 0] μ (oI (X12_status μ)) := by
  refine sMt_of (own := 12) (bl := false) (by decide +kernel) rfl (Nat.le_of_ble_eq_true rfl) (fun r ρ h => ?_) ?_
  · obtain ⟨q, -, hq⟩ := Option.map_eq_some_iff.mp h
    cases hq
    exact Or.inl rfl
  · unfold X12_status
    show sOk 12 cX12_status 1 1 false 0 [(0, vr 13 0)] [] μ _
    refine sBk (lo' := [(0, vr 13 0)]) (st' := [vi (rI μ 13 0 0)]) (μ' := wI μ 13 0 1 0) (pc' := 9) [(.aload_n 0, 0, 0, 0, 0), (.iconst 0, 0, 0, 0, 0), (.putfield 72, 12, 1, 0, 0), (.aload_n 0, 0, 0, 0, 0), (.getfield 75, 12, 0, 0, 0)] (by decide +kernel) rfl rfl ?_
    exact sRi (by decide +kernel) (fun h => by cases h)
/-! ClockRiverModel.top -/
def X12_top (μ : sM) : Option (Int64 × sM) :=
  some ((rL μ 13 0 2), wI μ 13 0 1 0)
theorem tX12_top (μ : sM) : sMt yX12_top cX12_top 1 (some .long) 1 [vr 13 0] μ (oL (X12_top μ)) := by
  refine sMt_of (own := 12) (bl := false) (by decide +kernel) rfl (Nat.le_of_ble_eq_true rfl) (fun r ρ h => ?_) ?_
  · obtain ⟨q, -, hq⟩ := Option.map_eq_some_iff.mp h
    cases hq
    exact rfl
  · unfold X12_top
    show sOk 12 cX12_top 1 1 false 0 [(0, vr 13 0)] [] μ _
    refine sBk (lo' := [(0, vr 13 0)]) (st' := [vl (rL μ 13 0 2)]) (μ' := wI μ 13 0 1 0) (pc' := 9) [(.aload_n 0, 0, 0, 0, 0), (.iconst 0, 0, 0, 0, 0), (.putfield 72, 12, 1, 0, 0), (.aload_n 0, 0, 0, 0, 0), (.getfield 78, 12, 2, 0, 0)] (by decide +kernel) rfl rfl ?_
    exact sRl (by decide +kernel)
/-! ClockRiverModel.bottom -/
def X12_bottom (μ : sM) : Option (Int64 × sM) :=
  some ((rL μ 13 0 3), wI μ 13 0 1 0)
theorem tX12_bottom (μ : sM) : sMt yX12_bottom cX12_bottom 1 (some .long) 1 [vr 13 0] μ (oL (X12_bottom μ)) := by
  refine sMt_of (own := 12) (bl := false) (by decide +kernel) rfl (Nat.le_of_ble_eq_true rfl) (fun r ρ h => ?_) ?_
  · obtain ⟨q, -, hq⟩ := Option.map_eq_some_iff.mp h
    cases hq
    exact rfl
  · unfold X12_bottom
    show sOk 12 cX12_bottom 1 1 false 0 [(0, vr 13 0)] [] μ _
    refine sBk (lo' := [(0, vr 13 0)]) (st' := [vl (rL μ 13 0 3)]) (μ' := wI μ 13 0 1 0) (pc' := 9) [(.aload_n 0, 0, 0, 0, 0), (.iconst 0, 0, 0, 0, 0), (.putfield 72, 12, 1, 0, 0), (.aload_n 0, 0, 0, 0, 0), (.getfield 7, 12, 3, 0, 0)] (by decide +kernel) rfl rfl ?_
    exact sRl (by decide +kernel)
/-! ClockRiverModel.no -/
def X12_no (a1 : Int32) (μ : sM) : Option (Int32 × sM) :=
  some (0, wI μ 13 0 0 a1)
theorem tX12_no (a1 : Int32) (μ : sM) : sMt yX12_no cX12_no 2 (some .boolean) 1 [vr 13 0, vi a1] μ (oI (X12_no a1 μ)) := by
  refine sMt_of (own := 12) (bl := true) (by decide +kernel) rfl (Nat.le_of_ble_eq_true rfl) (fun r ρ h => ?_) ?_
  · obtain ⟨q, -, hq⟩ := Option.map_eq_some_iff.mp h
    cases hq
    exact Or.inr ⟨rfl, rfl⟩
  · unfold X12_no
    show sOk 12 cX12_no 2 1 true 0 [(0, vr 13 0), (1, vi a1)] [] μ _
    refine sBk (lo' := [(0, vr 13 0), (1, vi a1)]) (st' := [vi 0]) (μ' := wI μ 13 0 0 a1) (pc' := 6) [(.aload_n 0, 0, 0, 0, 0), (.iload_n 1, 0, 0, 0, 0), (.putfield 75, 12, 0, 0, 0), (.iconst 0, 0, 0, 0, 0)] (by decide +kernel) rfl rfl ?_
    exact sRi (by decide +kernel) (fun _ => Or.inl rfl)
/-! ClockRiverModel.tray -/
def X12_tray_J28 (μ : sM) : Option (Int32 × sM) :=
  bI (X12_no 1 μ) fun x1 μ2 =>
    if x1 = 0 ∨ x1 = 1 then some (x1, μ2) else none
theorem X12_tray_J28_ok (μ : sM) : sOk 12 cX12_tray 5 2 true 28 [(0, vr 13 0)] [] μ (oI (X12_tray_J28 μ)) := by
  unfold X12_tray_J28
  refine sBk (lo' := [(0, vr 13 0)]) (st' := [vi 1, vr 13 0]) (μ' := μ) (pc' := 30) [(.aload_n 0, 0, 0, 0, 0), (.iconst 1, 0, 0, 1, 0)] (by decide +kernel) rfl rfl ?_
  refine sCvI oI rfl (ci := 12) (q := (13, 0)) (avs := [vi 1]) (rest := []) (tX12_no 1 μ) (by decide) (by decide +kernel) lk_12_87 yv_X12_no rfl (by decide) rfl rfl rfl (Nat.le_of_ble_eq_true rfl) (fun x1 μ2 => ?_)
  exact sCk oI rfl (fun h => sRi (by decide +kernel) (fun _ => h))
def X12_tray_L74 : Nat → Int32 → Int32 → Int32 → sM → Option (Int32 × sM)
  | 0, _, _, _, _ => none
  | n + 1, v1, v3, v4, μ =>
    if v3 ≤ v4 then
      some (1, μ)
    else
      if inb ((60 * v1) + v4) 240 = true then
        X12_tray_L74 n v1 v3 (v4 + 1) (wL μ 59 0 (ix ((60 * v1) + v4)) 0)
      else none
theorem X12_tray_L74_ok : ∀ (n : Nat) (v1 : Int32) (v3 : Int32) (v4 : Int32) (μ : sM), sOk 12 cX12_tray 5 2 true 74 [(0, vr 13 0), (1, vi v1), (3, vi v3), (4, vi v4)] [] μ (oI (X12_tray_L74 n v1 v3 v4 μ)) := by
  intro n
  induction n with
  | zero =>
    intros
    exact sNo
  | succ n ih =>
    intro v1 v3 v4 μ
    unfold X12_tray_L74
    refine sBk (lo' := [(0, vr 13 0), (1, vi v1), (3, vi v3), (4, vi v4)]) (st' := [vi v3, vi v4]) (μ' := μ) (pc' := 77) [(.iload 4, 0, 0, 0, 0), (.iload_n 3, 0, 0, 0, 0)] (by decide +kernel) rfl rfl ?_
    refine sIc_ge oI (off := 22) (tgt := 99) (by decide +kernel) (by decide) (fun _ => ?_) (fun _ => ?_)
    · refine sBk (lo' := [(0, vr 13 0), (1, vi v1), (3, vi v3), (4, vi v4)]) (st' := [vi 1]) (μ' := μ) (pc' := 100) [(.iconst 1, 0, 0, 1, 0)] (by decide +kernel) rfl rfl ?_
      exact sRi (by decide +kernel) (fun _ => Or.inr rfl)
    · refine sBk (lo' := [(0, vr 13 0), (1, vi v1), (3, vi v3), (4, vi v4)]) (st' := [vl 0, vi ((60 * v1) + v4), vr 59 0]) (μ' := μ) (pc' := 92) [(.aload_n 0, 0, 0, 0, 0), (.getfield 20, 12, 6, 0, 0), (.bipush 60, 0, 0, 60, 0), (.iload_n 1, 0, 0, 0, 0), (.imul, 0, 0, 0, 0), (.iload 4, 0, 0, 0, 0), (.iadd, 0, 0, 0, 0), (.lconst 0, 0, 0, 0, 0)] (by decide +kernel) rfl rfl ?_
      refine sS_las oI rfl (n := 240) (j := (ix ((60 * v1) + v4))) (by decide +kernel) rfl rfl rfl (fun _ => ?_)
      refine sBk (lo' := [(4, vi (v4 + 1)), (0, vr 13 0), (1, vi v1), (3, vi v3)]) (st' := []) (μ' := wL μ 59 0 (ix ((60 * v1) + v4)) 0) (pc' := 96) [(.iinc 4 1, 0, 0, 1, 0)] (by decide +kernel) rfl rfl ?_
      refine sGt (off := (-22)) (tgt := 74) (by decide +kernel) (by decide) ?_
      refine sWk (lo' := [(0, vr 13 0), (1, vi v1), (3, vi v3), (4, vi (v4 + 1))]) [1, 2, 3, 0] rfl ?_
      exact ih v1 v3 (v4 + 1) (wL μ 59 0 (ix ((60 * v1) + v4)) 0)
def X12_tray (a1 : Int32) (a2 : Int32) (a3 : Int32) (μ : sM) : Option (Int32 × sM) :=
  if a1 < 0 then
    X12_tray_J28 (wI (wI μ 13 0 1 0) 13 0 0 0)
  else
    if 4 ≤ a1 then
      X12_tray_J28 (wI (wI μ 13 0 1 0) 13 0 0 0)
    else
      if a2 < 0 then
        X12_tray_J28 (wI (wI μ 13 0 1 0) 13 0 0 0)
      else
        if a2 ≤ 3 then
          if a3 ≤ 60 then
            if 0 ≤ a3 then
              if inb a1 4 = true then
                if inb a1 4 = true then
                  X12_tray_L74 fuN a1 a3 0 (wI (wI (wI (wI μ 13 0 1 0) 13 0 0 0) 57 0 (ix a1) a2) 58 0 (ix a1) a3)
                else none
              else none
            else
              bI (X12_no 6 (wI (wI μ 13 0 1 0) 13 0 0 0)) fun x1 μ2 =>
                if x1 = 0 ∨ x1 = 1 then some (x1, μ2) else none
          else
            bI (X12_no 5 (wI (wI μ 13 0 1 0) 13 0 0 0)) fun x3 μ4 =>
              if x3 = 0 ∨ x3 = 1 then some (x3, μ4) else none
        else
          X12_tray_J28 (wI (wI μ 13 0 1 0) 13 0 0 0)
theorem tX12_tray (a1 : Int32) (a2 : Int32) (a3 : Int32) (μ : sM) : sMt yX12_tray cX12_tray 5 (some .boolean) 2 [vr 13 0, vi a1, vi a2, vi a3] μ (oI (X12_tray a1 a2 a3 μ)) := by
  refine sMt_of (own := 12) (bl := true) (by decide +kernel) rfl (Nat.le_of_ble_eq_true rfl) (fun r ρ h => ?_) ?_
  · obtain ⟨q, -, hq⟩ := Option.map_eq_some_iff.mp h
    cases hq
    exact Or.inr ⟨rfl, rfl⟩
  · unfold X12_tray
    show sOk 12 cX12_tray 5 2 true 0 [(0, vr 13 0), (1, vi a1), (2, vi a2), (3, vi a3)] [] μ _
    refine sBk (lo' := [(0, vr 13 0), (1, vi a1), (2, vi a2), (3, vi a3)]) (st' := [vi a1]) (μ' := wI (wI μ 13 0 1 0) 13 0 0 0) (pc' := 11) [(.aload_n 0, 0, 0, 0, 0), (.iconst 0, 0, 0, 0, 0), (.putfield 72, 12, 1, 0, 0), (.aload_n 0, 0, 0, 0, 0), (.iconst 0, 0, 0, 0, 0), (.putfield 75, 12, 0, 0, 0), (.iload_n 1, 0, 0, 0, 0)] (by decide +kernel) rfl rfl ?_
    refine sIf_lt oI (off := 17) (tgt := 28) (by decide +kernel) (by decide) (fun _ => ?_) (fun _ => ?_)
    · refine sWk (lo' := [(0, vr 13 0)]) [0] rfl ?_
      exact X12_tray_J28_ok (wI (wI μ 13 0 1 0) 13 0 0 0)
    · refine sBk (lo' := [(0, vr 13 0), (1, vi a1), (2, vi a2), (3, vi a3)]) (st' := [vi 4, vi a1]) (μ' := wI (wI μ 13 0 1 0) 13 0 0 0) (pc' := 16) [(.iload_n 1, 0, 0, 0, 0), (.iconst 4, 0, 0, 4, 0)] (by decide +kernel) rfl rfl ?_
      refine sIc_ge oI (off := 12) (tgt := 28) (by decide +kernel) (by decide) (fun _ => ?_) (fun _ => ?_)
      · refine sWk (lo' := [(0, vr 13 0)]) [0] rfl ?_
        exact X12_tray_J28_ok (wI (wI μ 13 0 1 0) 13 0 0 0)
      · refine sBk (lo' := [(0, vr 13 0), (1, vi a1), (2, vi a2), (3, vi a3)]) (st' := [vi a2]) (μ' := wI (wI μ 13 0 1 0) 13 0 0 0) (pc' := 20) [(.iload_n 2, 0, 0, 0, 0)] (by decide +kernel) rfl rfl ?_
        refine sIf_lt oI (off := 8) (tgt := 28) (by decide +kernel) (by decide) (fun _ => ?_) (fun _ => ?_)
        · refine sWk (lo' := [(0, vr 13 0)]) [0] rfl ?_
          exact X12_tray_J28_ok (wI (wI μ 13 0 1 0) 13 0 0 0)
        · refine sBk (lo' := [(0, vr 13 0), (1, vi a1), (2, vi a2), (3, vi a3)]) (st' := [vi 3, vi a2]) (μ' := wI (wI μ 13 0 1 0) 13 0 0 0) (pc' := 25) [(.iload_n 2, 0, 0, 0, 0), (.iconst 3, 0, 0, 3, 0)] (by decide +kernel) rfl rfl ?_
          refine sIc_le oI (off := 9) (tgt := 34) (by decide +kernel) (by decide) (fun _ => ?_) (fun _ => ?_)
          · refine sBk (lo' := [(0, vr 13 0), (1, vi a1), (2, vi a2), (3, vi a3)]) (st' := [vi 60, vi a3]) (μ' := wI (wI μ 13 0 1 0) 13 0 0 0) (pc' := 37) [(.iload_n 3, 0, 0, 0, 0), (.bipush 60, 0, 0, 60, 0)] (by decide +kernel) rfl rfl ?_
            refine sIc_le oI (off := 9) (tgt := 46) (by decide +kernel) (by decide) (fun _ => ?_) (fun _ => ?_)
            · refine sBk (lo' := [(0, vr 13 0), (1, vi a1), (2, vi a2), (3, vi a3)]) (st' := [vi a3]) (μ' := wI (wI μ 13 0 1 0) 13 0 0 0) (pc' := 47) [(.iload_n 3, 0, 0, 0, 0)] (by decide +kernel) rfl rfl ?_
              refine sIf_ge oI (off := 10) (tgt := 57) (by decide +kernel) (by decide) (fun _ => ?_) (fun _ => ?_)
              · refine sBk (lo' := [(0, vr 13 0), (1, vi a1), (2, vi a2), (3, vi a3)]) (st' := [vi a2, vi a1, vr 57 0]) (μ' := wI (wI μ 13 0 1 0) 13 0 0 0) (pc' := 63) [(.aload_n 0, 0, 0, 0, 0), (.getfield 13, 12, 4, 0, 0), (.iload_n 1, 0, 0, 0, 0), (.iload_n 2, 0, 0, 0, 0)] (by decide +kernel) rfl rfl ?_
                refine sS_ias oI rfl (n := 4) (j := (ix a1)) (by decide +kernel) rfl rfl rfl (fun _ => ?_)
                refine sBk (lo' := [(0, vr 13 0), (1, vi a1), (2, vi a2), (3, vi a3)]) (st' := [vi a3, vi a1, vr 58 0]) (μ' := wI (wI (wI μ 13 0 1 0) 13 0 0 0) 57 0 (ix a1) a2) (pc' := 70) [(.aload_n 0, 0, 0, 0, 0), (.getfield 17, 12, 5, 0, 0), (.iload_n 1, 0, 0, 0, 0), (.iload_n 3, 0, 0, 0, 0)] (by decide +kernel) rfl rfl ?_
                refine sS_ias oI rfl (n := 4) (j := (ix a1)) (by decide +kernel) rfl rfl rfl (fun _ => ?_)
                refine sBk (lo' := [(4, vi 0), (0, vr 13 0), (1, vi a1), (2, vi a2), (3, vi a3)]) (st' := []) (μ' := wI (wI (wI (wI μ 13 0 1 0) 13 0 0 0) 57 0 (ix a1) a2) 58 0 (ix a1) a3) (pc' := 74) [(.iconst 0, 0, 0, 0, 0), (.istore 4, 0, 0, 0, 0)] (by decide +kernel) rfl rfl ?_
                refine sWk (lo' := [(0, vr 13 0), (1, vi a1), (3, vi a3), (4, vi 0)]) [1, 2, 4, 0] rfl ?_
                exact X12_tray_L74_ok fuN a1 a3 0 (wI (wI (wI (wI μ 13 0 1 0) 13 0 0 0) 57 0 (ix a1) a2) 58 0 (ix a1) a3)
              · refine sBk (lo' := [(0, vr 13 0), (1, vi a1), (2, vi a2), (3, vi a3)]) (st' := [vi 6, vr 13 0]) (μ' := wI (wI μ 13 0 1 0) 13 0 0 0) (pc' := 53) [(.aload_n 0, 0, 0, 0, 0), (.bipush 6, 0, 0, 6, 0)] (by decide +kernel) rfl rfl ?_
                refine sCvI oI rfl (ci := 12) (q := (13, 0)) (avs := [vi 6]) (rest := []) (tX12_no 6 (wI (wI μ 13 0 1 0) 13 0 0 0)) (by decide) (by decide +kernel) lk_12_87 yv_X12_no rfl (by decide) rfl rfl rfl (Nat.le_of_ble_eq_true rfl) (fun x1 μ2 => ?_)
                exact sCk oI rfl (fun h => sRi (by decide +kernel) (fun _ => h))
            · refine sBk (lo' := [(0, vr 13 0), (1, vi a1), (2, vi a2), (3, vi a3)]) (st' := [vi 5, vr 13 0]) (μ' := wI (wI μ 13 0 1 0) 13 0 0 0) (pc' := 42) [(.aload_n 0, 0, 0, 0, 0), (.iconst 5, 0, 0, 5, 0)] (by decide +kernel) rfl rfl ?_
              refine sCvI oI rfl (ci := 12) (q := (13, 0)) (avs := [vi 5]) (rest := []) (tX12_no 5 (wI (wI μ 13 0 1 0) 13 0 0 0)) (by decide) (by decide +kernel) lk_12_87 yv_X12_no rfl (by decide) rfl rfl rfl (Nat.le_of_ble_eq_true rfl) (fun x3 μ4 => ?_)
              exact sCk oI rfl (fun h => sRi (by decide +kernel) (fun _ => h))
          · refine sWk (lo' := [(0, vr 13 0)]) [0] rfl ?_
            exact X12_tray_J28_ok (wI (wI μ 13 0 1 0) 13 0 0 0)
/-! ClockRiverModel.trayed -/
def X12_trayed (a1 : Int32) (μ : sM) : Option (Int32 × sM) :=
  if a1 < 0 then
    some (1, μ)
  else
    if a1 < 4 then
      if inb a1 4 = true then
        if 0 ≤ (rI μ 58 0 (ix a1)) then
          some (0, μ)
        else
          some (3, μ)
      else none
    else
      some (1, μ)
theorem tX12_trayed (a1 : Int32) (μ : sM) : sMt yX12_trayed cX12_trayed 2 (some .int) 1 [vr 13 0, vi a1] μ (oI (X12_trayed a1 μ)) := by
  refine sMt_of (own := 12) (bl := false) (by decide +kernel) rfl (Nat.le_of_ble_eq_true rfl) (fun r ρ h => ?_) ?_
  · obtain ⟨q, -, hq⟩ := Option.map_eq_some_iff.mp h
    cases hq
    exact Or.inl rfl
  · unfold X12_trayed
    show sOk 12 cX12_trayed 2 1 false 0 [(0, vr 13 0), (1, vi a1)] [] μ _
    refine sBk (lo' := [(0, vr 13 0), (1, vi a1)]) (st' := [vi a1]) (μ' := μ) (pc' := 1) [(.iload_n 1, 0, 0, 0, 0)] (by decide +kernel) rfl rfl ?_
    refine sIf_lt oI (off := 8) (tgt := 9) (by decide +kernel) (by decide) (fun _ => ?_) (fun _ => ?_)
    · refine sBk (lo' := [(0, vr 13 0), (1, vi a1)]) (st' := [vi 1]) (μ' := μ) (pc' := 10) [(.iconst 1, 0, 0, 1, 0)] (by decide +kernel) rfl rfl ?_
      refine sGt (off := 17) (tgt := 27) (by decide +kernel) (by decide) ?_
      exact sRi (by decide +kernel) (fun h => by cases h)
    · refine sBk (lo' := [(0, vr 13 0), (1, vi a1)]) (st' := [vi 4, vi a1]) (μ' := μ) (pc' := 6) [(.iload_n 1, 0, 0, 0, 0), (.iconst 4, 0, 0, 4, 0)] (by decide +kernel) rfl rfl ?_
      refine sIc_lt oI (off := 7) (tgt := 13) (by decide +kernel) (by decide) (fun _ => ?_) (fun _ => ?_)
      · refine sBk (lo' := [(0, vr 13 0), (1, vi a1)]) (st' := [vi a1, vr 58 0]) (μ' := μ) (pc' := 18) [(.aload_n 0, 0, 0, 0, 0), (.getfield 17, 12, 5, 0, 0), (.iload_n 1, 0, 0, 0, 0)] (by decide +kernel) rfl rfl ?_
        refine sS_ial oI rfl (n := 4) (j := (ix a1)) (by decide +kernel) rfl rfl rfl (fun _ => ?_)
        refine sIf_ge oI (off := 7) (tgt := 26) (by decide +kernel) (by decide) (fun _ => ?_) (fun _ => ?_)
        · refine sBk (lo' := [(0, vr 13 0), (1, vi a1)]) (st' := [vi 0]) (μ' := μ) (pc' := 27) [(.iconst 0, 0, 0, 0, 0)] (by decide +kernel) rfl rfl ?_
          exact sRi (by decide +kernel) (fun h => by cases h)
        · refine sBk (lo' := [(0, vr 13 0), (1, vi a1)]) (st' := [vi 3]) (μ' := μ) (pc' := 23) [(.iconst 3, 0, 0, 3, 0)] (by decide +kernel) rfl rfl ?_
          refine sGt (off := 4) (tgt := 27) (by decide +kernel) (by decide) ?_
          exact sRi (by decide +kernel) (fun h => by cases h)
      · refine sBk (lo' := [(0, vr 13 0), (1, vi a1)]) (st' := [vi 1]) (μ' := μ) (pc' := 10) [(.iconst 1, 0, 0, 1, 0)] (by decide +kernel) rfl rfl ?_
        refine sGt (off := 17) (tgt := 27) (by decide +kernel) (by decide) ?_
        exact sRi (by decide +kernel) (fun h => by cases h)
/-! ClockRiverModel.placed -/
def X12_placed (a1 : Int32) (a2 : Int32) (μ : sM) : Option (Int32 × sM) :=
  bI (X12_trayed a1 μ) fun x1 μ2 =>
    if x1 ≤ 0 then
      if a2 < 0 then
        some (4, μ2)
      else
        if inb a1 4 = true then
          if a2 < (rI μ2 58 0 (ix a1)) then
            some (0, μ2)
          else
            some (4, μ2)
        else none
    else
      some (x1, μ2)
theorem tX12_placed (a1 : Int32) (a2 : Int32) (μ : sM) : sMt yX12_placed cX12_placed 4 (some .int) 2 [vr 13 0, vi a1, vi a2] μ (oI (X12_placed a1 a2 μ)) := by
  refine sMt_of (own := 12) (bl := false) (by decide +kernel) rfl (Nat.le_of_ble_eq_true rfl) (fun r ρ h => ?_) ?_
  · obtain ⟨q, -, hq⟩ := Option.map_eq_some_iff.mp h
    cases hq
    exact Or.inl rfl
  · unfold X12_placed
    show sOk 12 cX12_placed 4 2 false 0 [(0, vr 13 0), (1, vi a1), (2, vi a2)] [] μ _
    refine sBk (lo' := [(0, vr 13 0), (1, vi a1), (2, vi a2)]) (st' := [vi a1, vr 13 0]) (μ' := μ) (pc' := 2) [(.aload_n 0, 0, 0, 0, 0), (.iload_n 1, 0, 0, 0, 0)] (by decide +kernel) rfl rfl ?_
    refine sCvI oI rfl (ci := 12) (q := (13, 0)) (avs := [vi a1]) (rest := []) (tX12_trayed a1 μ) (by decide) (by decide +kernel) lk_12_91 yv_X12_trayed rfl (by decide) rfl rfl rfl (Nat.le_of_ble_eq_true rfl) (fun x1 μ2 => ?_)
    refine sBk (lo' := [(3, vi x1), (0, vr 13 0), (1, vi a1), (2, vi a2)]) (st' := [vi x1]) (μ' := μ2) (pc' := 7) [(.istore_n 3, 0, 0, 0, 0), (.iload_n 3, 0, 0, 0, 0)] (by decide +kernel) rfl rfl ?_
    refine sIf_le oI (off := 7) (tgt := 14) (by decide +kernel) (by decide) (fun _ => ?_) (fun _ => ?_)
    · refine sBk (lo' := [(3, vi x1), (0, vr 13 0), (1, vi a1), (2, vi a2)]) (st' := [vi a2]) (μ' := μ2) (pc' := 15) [(.iload_n 2, 0, 0, 0, 0)] (by decide +kernel) rfl rfl ?_
      refine sIf_lt oI (off := 13) (tgt := 28) (by decide +kernel) (by decide) (fun _ => ?_) (fun _ => ?_)
      · refine sBk (lo' := [(3, vi x1), (0, vr 13 0), (1, vi a1), (2, vi a2)]) (st' := [vi 4]) (μ' := μ2) (pc' := 29) [(.iconst 4, 0, 0, 4, 0)] (by decide +kernel) rfl rfl ?_
        refine sGt (off := 4) (tgt := 33) (by decide +kernel) (by decide) ?_
        exact sRi (by decide +kernel) (fun h => by cases h)
      · refine sBk (lo' := [(3, vi x1), (0, vr 13 0), (1, vi a1), (2, vi a2)]) (st' := [vi a1, vr 58 0, vi a2]) (μ' := μ2) (pc' := 24) [(.iload_n 2, 0, 0, 0, 0), (.aload_n 0, 0, 0, 0, 0), (.getfield 17, 12, 5, 0, 0), (.iload_n 1, 0, 0, 0, 0)] (by decide +kernel) rfl rfl ?_
        refine sS_ial oI rfl (n := 4) (j := (ix a1)) (by decide +kernel) rfl rfl rfl (fun _ => ?_)
        refine sIc_lt oI (off := 7) (tgt := 32) (by decide +kernel) (by decide) (fun _ => ?_) (fun _ => ?_)
        · refine sBk (lo' := [(3, vi x1), (0, vr 13 0), (1, vi a1), (2, vi a2)]) (st' := [vi 0]) (μ' := μ2) (pc' := 33) [(.iconst 0, 0, 0, 0, 0)] (by decide +kernel) rfl rfl ?_
          exact sRi (by decide +kernel) (fun h => by cases h)
        · refine sBk (lo' := [(3, vi x1), (0, vr 13 0), (1, vi a1), (2, vi a2)]) (st' := [vi 4]) (μ' := μ2) (pc' := 29) [(.iconst 4, 0, 0, 4, 0)] (by decide +kernel) rfl rfl ?_
          refine sGt (off := 4) (tgt := 33) (by decide +kernel) (by decide) ?_
          exact sRi (by decide +kernel) (fun h => by cases h)
    · refine sBk (lo' := [(3, vi x1), (0, vr 13 0), (1, vi a1), (2, vi a2)]) (st' := [vi x1]) (μ' := μ2) (pc' := 11) [(.iload_n 3, 0, 0, 0, 0)] (by decide +kernel) rfl rfl ?_
      refine sGt (off := 22) (tgt := 33) (by decide +kernel) (by decide) ?_
      exact sRi (by decide +kernel) (fun h => by cases h)
/-! ClockRiverModel.cut -/
def X12_cut (a0 : Int32) (a1 : Int64) (μ : sM) : Option (Int64 × sM) :=
  if a0 = 0 then
    some ((Int32.toInt64 (Int8.toInt32 (Int32.toInt8 (Int64.toInt32 a1)))), μ)
  else
    if a0 = 1 then
      some ((Int32.toInt64 (Int16.toInt32 (Int32.toInt16 (Int64.toInt32 a1)))), μ)
    else
      if a0 = 2 then
        some ((Int32.toInt64 (Int64.toInt32 a1)), μ)
      else
        some (a1, μ)
theorem tX12_cut (a0 : Int32) (a1 : Int64) (μ : sM) : sMt yX12_cut cX12_cut 3 (some .long) 1 [vi a0, vl a1] μ (oL (X12_cut a0 a1 μ)) := by
  refine sMt_of (own := 12) (bl := false) (by decide +kernel) rfl (Nat.le_of_ble_eq_true rfl) (fun r ρ h => ?_) ?_
  · obtain ⟨q, -, hq⟩ := Option.map_eq_some_iff.mp h
    cases hq
    exact rfl
  · unfold X12_cut
    show sOk 12 cX12_cut 3 1 false 0 [(0, vi a0), (1, vl a1)] [] μ _
    refine sBk (lo' := [(0, vi a0), (1, vl a1)]) (st' := [vi a0]) (μ' := μ) (pc' := 1) [(.iload_n 0, 0, 0, 0, 0)] (by decide +kernel) rfl rfl ?_
    refine sIf_ne oL (off := 10) (tgt := 11) (by decide +kernel) (by decide) (fun _ => ?_) (fun _ => ?_)
    · refine sBk (lo' := [(0, vi a0), (1, vl a1)]) (st' := [vi 1, vi a0]) (μ' := μ) (pc' := 13) [(.iload_n 0, 0, 0, 0, 0), (.iconst 1, 0, 0, 1, 0)] (by decide +kernel) rfl rfl ?_
      refine sIc_ne oL (off := 10) (tgt := 23) (by decide +kernel) (by decide) (fun _ => ?_) (fun _ => ?_)
      · refine sBk (lo' := [(0, vi a0), (1, vl a1)]) (st' := [vi 2, vi a0]) (μ' := μ) (pc' := 25) [(.iload_n 0, 0, 0, 0, 0), (.iconst 2, 0, 0, 2, 0)] (by decide +kernel) rfl rfl ?_
        refine sIc_ne oL (off := 9) (tgt := 34) (by decide +kernel) (by decide) (fun _ => ?_) (fun _ => ?_)
        · refine sBk (lo' := [(0, vi a0), (1, vl a1)]) (st' := [vl a1]) (μ' := μ) (pc' := 35) [(.lload_n 1, 0, 0, 0, 0)] (by decide +kernel) rfl rfl ?_
          exact sRl (by decide +kernel)
        · refine sBk (lo' := [(0, vi a0), (1, vl a1)]) (st' := [vl (Int32.toInt64 (Int64.toInt32 a1))]) (μ' := μ) (pc' := 31) [(.lload_n 1, 0, 0, 0, 0), (.l2i, 0, 0, 0, 0), (.i2l, 0, 0, 0, 0)] (by decide +kernel) rfl rfl ?_
          refine sGt (off := 4) (tgt := 35) (by decide +kernel) (by decide) ?_
          exact sRl (by decide +kernel)
      · refine sBk (lo' := [(0, vi a0), (1, vl a1)]) (st' := [vl (Int32.toInt64 (Int16.toInt32 (Int32.toInt16 (Int64.toInt32 a1))))]) (μ' := μ) (pc' := 20) [(.lload_n 1, 0, 0, 0, 0), (.l2i, 0, 0, 0, 0), (.i2s, 0, 0, 0, 0), (.i2l, 0, 0, 0, 0)] (by decide +kernel) rfl rfl ?_
        refine sGt (off := 15) (tgt := 35) (by decide +kernel) (by decide) ?_
        exact sRl (by decide +kernel)
    · refine sBk (lo' := [(0, vi a0), (1, vl a1)]) (st' := [vl (Int32.toInt64 (Int8.toInt32 (Int32.toInt8 (Int64.toInt32 a1))))]) (μ' := μ) (pc' := 8) [(.lload_n 1, 0, 0, 0, 0), (.l2i, 0, 0, 0, 0), (.i2b, 0, 0, 0, 0), (.i2l, 0, 0, 0, 0)] (by decide +kernel) rfl rfl ?_
      refine sGt (off := 27) (tgt := 35) (by decide +kernel) (by decide) ?_
      exact sRl (by decide +kernel)
/-! ClockRiverModel.write -/
def X12_write (a1 : Int32) (a2 : Int32) (a3 : Int64) (μ : sM) : Option (Int32 × sM) :=
  bI (X12_placed a1 a2 (wI μ 13 0 1 0)) fun x1 μ2 =>
    if x1 ≤ 0 then
      if inb a1 4 = true then
        bL (X12_cut (rI μ2 57 0 (ix a1)) a3 (wI μ2 13 0 0 x1)) fun x3 μ4 =>
          if inb ((60 * a1) + a2) 240 = true then
            some (1, wL μ4 59 0 (ix ((60 * a1) + a2)) x3)
          else none
      else none
    else
      some (0, wI μ2 13 0 0 x1)
theorem tX12_write (a1 : Int32) (a2 : Int32) (a3 : Int64) (μ : sM) : sMt yX12_write cX12_write 5 (some .boolean) 3 [vr 13 0, vi a1, vi a2, vl a3] μ (oI (X12_write a1 a2 a3 μ)) := by
  refine sMt_of (own := 12) (bl := true) (by decide +kernel) rfl (Nat.le_of_ble_eq_true rfl) (fun r ρ h => ?_) ?_
  · obtain ⟨q, -, hq⟩ := Option.map_eq_some_iff.mp h
    cases hq
    exact Or.inr ⟨rfl, rfl⟩
  · unfold X12_write
    show sOk 12 cX12_write 5 3 true 0 [(0, vr 13 0), (1, vi a1), (2, vi a2), (3, vl a3)] [] μ _
    refine sBk (lo' := [(0, vr 13 0), (1, vi a1), (2, vi a2), (3, vl a3)]) (st' := [vi a2, vi a1, vr 13 0, vr 13 0]) (μ' := wI μ 13 0 1 0) (pc' := 9) [(.aload_n 0, 0, 0, 0, 0), (.iconst 0, 0, 0, 0, 0), (.putfield 72, 12, 1, 0, 0), (.aload_n 0, 0, 0, 0, 0), (.aload_n 0, 0, 0, 0, 0), (.iload_n 1, 0, 0, 0, 0), (.iload_n 2, 0, 0, 0, 0)] (by decide +kernel) rfl rfl ?_
    refine sCvI oI rfl (ci := 12) (q := (13, 0)) (avs := [vi a1, vi a2]) (rest := [vr 13 0]) (tX12_placed a1 a2 (wI μ 13 0 1 0)) (by decide) (by decide +kernel) lk_12_95 yv_X12_placed rfl (by decide) rfl rfl rfl (Nat.le_of_ble_eq_true rfl) (fun x1 μ2 => ?_)
    refine sBk (lo' := [(0, vr 13 0), (1, vi a1), (2, vi a2), (3, vl a3)]) (st' := [vi x1]) (μ' := wI μ2 13 0 0 x1) (pc' := 19) [(.putfield 75, 12, 0, 0, 0), (.aload_n 0, 0, 0, 0, 0), (.getfield 75, 12, 0, 0, 0)] (by decide +kernel) rfl rfl ?_
    refine sIf_le oI (off := 5) (tgt := 24) (by decide +kernel) (by decide) (fun _ => ?_) (fun _ => ?_)
    · refine sBk (lo' := [(0, vr 13 0), (1, vi a1), (2, vi a2), (3, vl a3)]) (st' := [vi a1, vr 57 0, vi ((60 * a1) + a2), vr 59 0]) (μ' := wI μ2 13 0 0 x1) (pc' := 39) [(.aload_n 0, 0, 0, 0, 0), (.getfield 20, 12, 6, 0, 0), (.bipush 60, 0, 0, 60, 0), (.iload_n 1, 0, 0, 0, 0), (.imul, 0, 0, 0, 0), (.iload_n 2, 0, 0, 0, 0), (.iadd, 0, 0, 0, 0), (.aload_n 0, 0, 0, 0, 0), (.getfield 13, 12, 4, 0, 0), (.iload_n 1, 0, 0, 0, 0)] (by decide +kernel) rfl rfl ?_
      refine sS_ial oI rfl (n := 4) (j := (ix a1)) (by decide +kernel) rfl rfl rfl (fun _ => ?_)
      refine sBk (lo' := [(0, vr 13 0), (1, vi a1), (2, vi a2), (3, vl a3)]) (st' := [vl a3, vi (rI μ2 57 0 (ix a1)), vi ((60 * a1) + a2), vr 59 0]) (μ' := wI μ2 13 0 0 x1) (pc' := 41) [(.lload_n 3, 0, 0, 0, 0)] (by decide +kernel) rfl rfl ?_
      refine sCsL oI rfl (avs := [vi (rI μ2 57 0 (ix a1)), vl a3]) (rest := [vi ((60 * a1) + a2), vr 59 0]) (tX12_cut (rI μ2 57 0 (ix a1)) a3 (wI μ2 13 0 0 x1)) (by decide) (by decide +kernel) lk_12_99 ys_X12_cut rfl rfl (Nat.le_of_ble_eq_true rfl) (fun x3 μ4 => ?_)
      refine sS_las oI rfl (n := 240) (j := (ix ((60 * a1) + a2))) (by decide +kernel) rfl rfl rfl (fun _ => ?_)
      refine sBk (lo' := [(0, vr 13 0), (1, vi a1), (2, vi a2), (3, vl a3)]) (st' := [vi 1]) (μ' := wL μ4 59 0 (ix ((60 * a1) + a2)) x3) (pc' := 46) [(.iconst 1, 0, 0, 1, 0)] (by decide +kernel) rfl rfl ?_
      exact sRi (by decide +kernel) (fun _ => Or.inr rfl)
    · refine sBk (lo' := [(0, vr 13 0), (1, vi a1), (2, vi a2), (3, vl a3)]) (st' := [vi 0]) (μ' := wI μ2 13 0 0 x1) (pc' := 23) [(.iconst 0, 0, 0, 0, 0)] (by decide +kernel) rfl rfl ?_
      exact sRi (by decide +kernel) (fun _ => Or.inl rfl)
/-! ClockRiverModel.read -/
def X12_read (a1 : Int32) (a2 : Int32) (μ : sM) : Option (Int64 × sM) :=
  bI (X12_placed a1 a2 (wI μ 13 0 1 0)) fun x1 μ2 =>
    if x1 ≤ 0 then
      if inb ((60 * a1) + a2) 240 = true then
        some ((rL μ2 59 0 (ix ((60 * a1) + a2))), wI μ2 13 0 0 x1)
      else none
    else
      some ((-1), wI μ2 13 0 0 x1)
theorem tX12_read (a1 : Int32) (a2 : Int32) (μ : sM) : sMt yX12_read cX12_read 3 (some .long) 3 [vr 13 0, vi a1, vi a2] μ (oL (X12_read a1 a2 μ)) := by
  refine sMt_of (own := 12) (bl := false) (by decide +kernel) rfl (Nat.le_of_ble_eq_true rfl) (fun r ρ h => ?_) ?_
  · obtain ⟨q, -, hq⟩ := Option.map_eq_some_iff.mp h
    cases hq
    exact rfl
  · unfold X12_read
    show sOk 12 cX12_read 3 3 false 0 [(0, vr 13 0), (1, vi a1), (2, vi a2)] [] μ _
    refine sBk (lo' := [(0, vr 13 0), (1, vi a1), (2, vi a2)]) (st' := [vi a2, vi a1, vr 13 0, vr 13 0]) (μ' := wI μ 13 0 1 0) (pc' := 9) [(.aload_n 0, 0, 0, 0, 0), (.iconst 0, 0, 0, 0, 0), (.putfield 72, 12, 1, 0, 0), (.aload_n 0, 0, 0, 0, 0), (.aload_n 0, 0, 0, 0, 0), (.iload_n 1, 0, 0, 0, 0), (.iload_n 2, 0, 0, 0, 0)] (by decide +kernel) rfl rfl ?_
    refine sCvI oL rfl (ci := 12) (q := (13, 0)) (avs := [vi a1, vi a2]) (rest := [vr 13 0]) (tX12_placed a1 a2 (wI μ 13 0 1 0)) (by decide) (by decide +kernel) lk_12_95 yv_X12_placed rfl (by decide) rfl rfl rfl (Nat.le_of_ble_eq_true rfl) (fun x1 μ2 => ?_)
    refine sBk (lo' := [(0, vr 13 0), (1, vi a1), (2, vi a2)]) (st' := [vi x1]) (μ' := wI μ2 13 0 0 x1) (pc' := 19) [(.putfield 75, 12, 0, 0, 0), (.aload_n 0, 0, 0, 0, 0), (.getfield 75, 12, 0, 0, 0)] (by decide +kernel) rfl rfl ?_
    refine sIf_le oL (off := 9) (tgt := 28) (by decide +kernel) (by decide) (fun _ => ?_) (fun _ => ?_)
    · refine sBk (lo' := [(0, vr 13 0), (1, vi a1), (2, vi a2)]) (st' := [vi ((60 * a1) + a2), vr 59 0]) (μ' := wI μ2 13 0 0 x1) (pc' := 38) [(.aload_n 0, 0, 0, 0, 0), (.getfield 20, 12, 6, 0, 0), (.bipush 60, 0, 0, 60, 0), (.iload_n 1, 0, 0, 0, 0), (.imul, 0, 0, 0, 0), (.iload_n 2, 0, 0, 0, 0), (.iadd, 0, 0, 0, 0)] (by decide +kernel) rfl rfl ?_
      refine sS_lal oL rfl (n := 240) (j := (ix ((60 * a1) + a2))) (by decide +kernel) rfl rfl rfl (fun _ => ?_)
      exact sRl (by decide +kernel)
    · refine sBk (lo' := [(0, vr 13 0), (1, vi a1), (2, vi a2)]) (st' := [vl (-1)]) (μ' := wI μ2 13 0 0 x1) (pc' := 25) [(.ldc2_w 103, 0, 0, 0, (-1))] (by decide +kernel) rfl rfl ?_
      refine sGt (off := 14) (tgt := 39) (by decide +kernel) (by decide) ?_
      exact sRl (by decide +kernel)
/-! ClockRiverModel.pour -/
def X12_pour_J28 (μ : sM) : Option (Int32 × sM) :=
  bI (X12_no 1 μ) fun x1 μ2 =>
    if x1 = 0 ∨ x1 = 1 then some (x1, μ2) else none
theorem X12_pour_J28_ok (μ : sM) : sOk 12 cX12_pour 9 2 true 28 [(0, vr 13 0)] [] μ (oI (X12_pour_J28 μ)) := by
  unfold X12_pour_J28
  refine sBk (lo' := [(0, vr 13 0)]) (st' := [vi 1, vr 13 0]) (μ' := μ) (pc' := 30) [(.aload_n 0, 0, 0, 0, 0), (.iconst 1, 0, 0, 1, 0)] (by decide +kernel) rfl rfl ?_
  refine sCvI oI rfl (ci := 12) (q := (13, 0)) (avs := [vi 1]) (rest := []) (tX12_no 1 μ) (by decide) (by decide +kernel) lk_12_87 yv_X12_no rfl (by decide) rfl rfl rfl (Nat.le_of_ble_eq_true rfl) (fun x1 μ2 => ?_)
  exact sCk oI rfl (fun h => sRi (by decide +kernel) (fun _ => h))
def X12_pour_J52 (μ : sM) : Option (Int32 × sM) :=
  bI (X12_no 3 μ) fun x1 μ2 =>
    if x1 = 0 ∨ x1 = 1 then some (x1, μ2) else none
theorem X12_pour_J52_ok (μ : sM) : sOk 12 cX12_pour 9 2 true 52 [(0, vr 13 0)] [] μ (oI (X12_pour_J52 μ)) := by
  unfold X12_pour_J52
  refine sBk (lo' := [(0, vr 13 0)]) (st' := [vi 3, vr 13 0]) (μ' := μ) (pc' := 54) [(.aload_n 0, 0, 0, 0, 0), (.iconst 3, 0, 0, 3, 0)] (by decide +kernel) rfl rfl ?_
  refine sCvI oI rfl (ci := 12) (q := (13, 0)) (avs := [vi 3]) (rest := []) (tX12_no 3 μ) (by decide) (by decide +kernel) lk_12_87 yv_X12_no rfl (by decide) rfl rfl rfl (Nat.le_of_ble_eq_true rfl) (fun x1 μ2 => ?_)
  exact sCk oI rfl (fun h => sRi (by decide +kernel) (fun _ => h))
def X12_pour_J136 (μ : sM) : Option (Int32 × sM) :=
  bI (X12_no 4 μ) fun x1 μ2 =>
    if x1 = 0 ∨ x1 = 1 then some (x1, μ2) else none
theorem X12_pour_J136_ok (μ : sM) : sOk 12 cX12_pour 9 2 true 136 [(0, vr 13 0)] [] μ (oI (X12_pour_J136 μ)) := by
  unfold X12_pour_J136
  refine sBk (lo' := [(0, vr 13 0)]) (st' := [vi 4, vr 13 0]) (μ' := μ) (pc' := 138) [(.aload_n 0, 0, 0, 0, 0), (.iconst 4, 0, 0, 4, 0)] (by decide +kernel) rfl rfl ?_
  refine sCvI oI rfl (ci := 12) (q := (13, 0)) (avs := [vi 4]) (rest := []) (tX12_no 4 μ) (by decide) (by decide +kernel) lk_12_87 yv_X12_no rfl (by decide) rfl rfl rfl (Nat.le_of_ble_eq_true rfl) (fun x1 μ2 => ?_)
  exact sCk oI rfl (fun h => sRi (by decide +kernel) (fun _ => h))
def X12_pour_J182 (k158 : Int32 → Int32 → Int32 → Int32 → Int32 → Int32 → Int32 → sM → Option (Int32 × sM)) (v1 : Int32) (v2 : Int32) (v3 : Int32) (v4 : Int32) (v5 : Int32) (v6 : Int32) (v7 : Int32) (s0 : Int32) (μ : sM) : Option (Int32 × sM) :=
  if inb (((60 * v1) + v2) + s0) 240 = true then
    if inb (((60 * v3) + v4) + s0) 240 = true then
      k158 v1 v2 v3 v4 v5 v6 (v7 + 1) (wL μ 59 0 (ix (((60 * v3) + v4) + s0)) (rL μ 59 0 (ix (((60 * v1) + v2) + s0))))
    else none
  else none
theorem X12_pour_J182_ok {k158 : Int32 → Int32 → Int32 → Int32 → Int32 → Int32 → Int32 → sM → Option (Int32 × sM)} (hk158 : ∀ (v1 : Int32) (v2 : Int32) (v3 : Int32) (v4 : Int32) (v5 : Int32) (v6 : Int32) (v7 : Int32) (μ : sM), sOk 12 cX12_pour 9 2 true 158 [(0, vr 13 0), (1, vi v1), (2, vi v2), (3, vi v3), (4, vi v4), (5, vi v5), (6, vi v6), (7, vi v7)] [] μ (oI (k158 v1 v2 v3 v4 v5 v6 v7 μ))) (v1 : Int32) (v2 : Int32) (v3 : Int32) (v4 : Int32) (v5 : Int32) (v6 : Int32) (v7 : Int32) (s0 : Int32) (μ : sM) : sOk 12 cX12_pour 9 2 true 182 [(0, vr 13 0), (1, vi v1), (2, vi v2), (3, vi v3), (4, vi v4), (5, vi v5), (6, vi v6), (7, vi v7)] [vi s0] μ (oI (X12_pour_J182 k158 v1 v2 v3 v4 v5 v6 v7 s0 μ)) := by
  unfold X12_pour_J182
  refine sBk (lo' := [(8, vi s0), (0, vr 13 0), (1, vi v1), (2, vi v2), (3, vi v3), (4, vi v4), (5, vi v5), (6, vi v6), (7, vi v7)]) (st' := [vi (((60 * v1) + v2) + s0), vr 59 0, vi (((60 * v3) + v4) + s0), vr 59 0]) (μ' := μ) (pc' := 211) [(.istore 8, 0, 0, 0, 0), (.aload_n 0, 0, 0, 0, 0), (.getfield 20, 12, 6, 0, 0), (.bipush 60, 0, 0, 60, 0), (.iload_n 3, 0, 0, 0, 0), (.imul, 0, 0, 0, 0), (.iload 4, 0, 0, 0, 0), (.iadd, 0, 0, 0, 0), (.iload 8, 0, 0, 0, 0), (.iadd, 0, 0, 0, 0), (.aload_n 0, 0, 0, 0, 0), (.getfield 20, 12, 6, 0, 0), (.bipush 60, 0, 0, 60, 0), (.iload_n 1, 0, 0, 0, 0), (.imul, 0, 0, 0, 0), (.iload_n 2, 0, 0, 0, 0), (.iadd, 0, 0, 0, 0), (.iload 8, 0, 0, 0, 0), (.iadd, 0, 0, 0, 0)] (by decide +kernel) rfl rfl ?_
  refine sS_lal oI rfl (n := 240) (j := (ix (((60 * v1) + v2) + s0))) (by decide +kernel) rfl rfl rfl (fun _ => ?_)
  refine sS_las oI rfl (n := 240) (j := (ix (((60 * v3) + v4) + s0))) (by decide +kernel) rfl rfl rfl (fun _ => ?_)
  refine sBk (lo' := [(7, vi (v7 + 1)), (8, vi s0), (0, vr 13 0), (1, vi v1), (2, vi v2), (3, vi v3), (4, vi v4), (5, vi v5), (6, vi v6)]) (st' := []) (μ' := wL μ 59 0 (ix (((60 * v3) + v4) + s0)) (rL μ 59 0 (ix (((60 * v1) + v2) + s0)))) (pc' := 216) [(.iinc 7 1, 0, 0, 1, 0)] (by decide +kernel) rfl rfl ?_
  refine sGt (off := (-58)) (tgt := 158) (by decide +kernel) (by decide) ?_
  refine sWk (lo' := [(0, vr 13 0), (1, vi v1), (2, vi v2), (3, vi v3), (4, vi v4), (5, vi v5), (6, vi v6), (7, vi (v7 + 1))]) [2, 3, 4, 5, 6, 7, 8, 0] rfl ?_
  exact hk158 v1 v2 v3 v4 v5 v6 (v7 + 1) (wL μ 59 0 (ix (((60 * v3) + v4) + s0)) (rL μ 59 0 (ix (((60 * v1) + v2) + s0))))
def X12_pour_L158 : Nat → Int32 → Int32 → Int32 → Int32 → Int32 → Int32 → Int32 → sM → Option (Int32 × sM)
  | 0, _, _, _, _, _, _, _, _ => none
  | n + 1, v1, v2, v3, v4, v5, v6, v7, μ =>
    if v5 ≤ v7 then
      some (1, μ)
    else
      if v6 = 0 then
        X12_pour_J182 (X12_pour_L158 n) v1 v2 v3 v4 v5 v6 v7 v7 μ
      else
        X12_pour_J182 (X12_pour_L158 n) v1 v2 v3 v4 v5 v6 v7 ((v5 - 1) - v7) μ
theorem X12_pour_L158_ok : ∀ (n : Nat) (v1 : Int32) (v2 : Int32) (v3 : Int32) (v4 : Int32) (v5 : Int32) (v6 : Int32) (v7 : Int32) (μ : sM), sOk 12 cX12_pour 9 2 true 158 [(0, vr 13 0), (1, vi v1), (2, vi v2), (3, vi v3), (4, vi v4), (5, vi v5), (6, vi v6), (7, vi v7)] [] μ (oI (X12_pour_L158 n v1 v2 v3 v4 v5 v6 v7 μ)) := by
  intro n
  induction n with
  | zero =>
    intros
    exact sNo
  | succ n ih =>
    intro v1 v2 v3 v4 v5 v6 v7 μ
    unfold X12_pour_L158
    refine sBk (lo' := [(0, vr 13 0), (1, vi v1), (2, vi v2), (3, vi v3), (4, vi v4), (5, vi v5), (6, vi v6), (7, vi v7)]) (st' := [vi v5, vi v7]) (μ' := μ) (pc' := 162) [(.iload 7, 0, 0, 0, 0), (.iload 5, 0, 0, 0, 0)] (by decide +kernel) rfl rfl ?_
    refine sIc_ge oI (off := 57) (tgt := 219) (by decide +kernel) (by decide) (fun _ => ?_) (fun _ => ?_)
    · refine sBk (lo' := [(0, vr 13 0), (1, vi v1), (2, vi v2), (3, vi v3), (4, vi v4), (5, vi v5), (6, vi v6), (7, vi v7)]) (st' := [vi 1]) (μ' := μ) (pc' := 220) [(.iconst 1, 0, 0, 1, 0)] (by decide +kernel) rfl rfl ?_
      exact sRi (by decide +kernel) (fun _ => Or.inr rfl)
    · refine sBk (lo' := [(0, vr 13 0), (1, vi v1), (2, vi v2), (3, vi v3), (4, vi v4), (5, vi v5), (6, vi v6), (7, vi v7)]) (st' := [vi v6]) (μ' := μ) (pc' := 167) [(.iload 6, 0, 0, 0, 0)] (by decide +kernel) rfl rfl ?_
      refine sIf_eq oI (off := 13) (tgt := 180) (by decide +kernel) (by decide) (fun _ => ?_) (fun _ => ?_)
      · refine sBk (lo' := [(0, vr 13 0), (1, vi v1), (2, vi v2), (3, vi v3), (4, vi v4), (5, vi v5), (6, vi v6), (7, vi v7)]) (st' := [vi v7]) (μ' := μ) (pc' := 182) [(.iload 7, 0, 0, 0, 0)] (by decide +kernel) rfl rfl ?_
        exact X12_pour_J182_ok ih v1 v2 v3 v4 v5 v6 v7 v7 μ
      · refine sBk (lo' := [(0, vr 13 0), (1, vi v1), (2, vi v2), (3, vi v3), (4, vi v4), (5, vi v5), (6, vi v6), (7, vi v7)]) (st' := [vi ((v5 - 1) - v7)]) (μ' := μ) (pc' := 177) [(.iload 5, 0, 0, 0, 0), (.iconst 1, 0, 0, 1, 0), (.isub, 0, 0, 0, 0), (.iload 7, 0, 0, 0, 0), (.isub, 0, 0, 0, 0)] (by decide +kernel) rfl rfl ?_
        refine sGt (off := 5) (tgt := 182) (by decide +kernel) (by decide) ?_
        exact X12_pour_J182_ok ih v1 v2 v3 v4 v5 v6 v7 ((v5 - 1) - v7) μ
def X12_pour_J153 (v1 : Int32) (v2 : Int32) (v3 : Int32) (v4 : Int32) (v5 : Int32) (s0 : Int32) (μ : sM) : Option (Int32 × sM) :=
  X12_pour_L158 fuN v1 v2 v3 v4 v5 s0 0 μ
theorem X12_pour_J153_ok (v1 : Int32) (v2 : Int32) (v3 : Int32) (v4 : Int32) (v5 : Int32) (s0 : Int32) (μ : sM) : sOk 12 cX12_pour 9 2 true 153 [(0, vr 13 0), (1, vi v1), (2, vi v2), (3, vi v3), (4, vi v4), (5, vi v5)] [vi s0] μ (oI (X12_pour_J153 v1 v2 v3 v4 v5 s0 μ)) := by
  unfold X12_pour_J153
  refine sBk (lo' := [(7, vi 0), (6, vi s0), (0, vr 13 0), (1, vi v1), (2, vi v2), (3, vi v3), (4, vi v4), (5, vi v5)]) (st' := []) (μ' := μ) (pc' := 158) [(.istore 6, 0, 0, 0, 0), (.iconst 0, 0, 0, 0, 0), (.istore 7, 0, 0, 0, 0)] (by decide +kernel) rfl rfl ?_
  refine sWk (lo' := [(0, vr 13 0), (1, vi v1), (2, vi v2), (3, vi v3), (4, vi v4), (5, vi v5), (6, vi s0), (7, vi 0)]) [2, 3, 4, 5, 6, 7, 1, 0] rfl ?_
  exact X12_pour_L158_ok fuN v1 v2 v3 v4 v5 s0 0 μ
def X12_pour (a1 : Int32) (a2 : Int32) (a3 : Int32) (a4 : Int32) (a5 : Int32) (μ : sM) : Option (Int32 × sM) :=
  if a1 < 0 then
    X12_pour_J28 (wI (wI μ 13 0 1 0) 13 0 0 0)
  else
    if 4 ≤ a1 then
      X12_pour_J28 (wI (wI μ 13 0 1 0) 13 0 0 0)
    else
      if a3 < 0 then
        X12_pour_J28 (wI (wI μ 13 0 1 0) 13 0 0 0)
      else
        if a3 < 4 then
          if inb a1 4 = true then
            if (rI μ 58 0 (ix a1)) < 0 then
              X12_pour_J52 (wI (wI μ 13 0 1 0) 13 0 0 0)
            else
              if inb a3 4 = true then
                if 0 ≤ (rI μ 58 0 (ix a3)) then
                  if inb a1 4 = true then
                    if inb a3 4 = true then
                      if (rI μ 57 0 (ix a1)) = (rI μ 57 0 (ix a3)) then
                        if 0 ≤ a5 then
                          if a2 < 0 then
                            X12_pour_J136 (wI (wI μ 13 0 1 0) 13 0 0 0)
                          else
                            if a4 < 0 then
                              X12_pour_J136 (wI (wI μ 13 0 1 0) 13 0 0 0)
                            else
                              if inb a1 4 = true then
                                if 0 < (lg_cmp ((Int32.toInt64 a2) + (Int32.toInt64 a5)) (Int32.toInt64 (rI μ 58 0 (ix a1)))) then
                                  X12_pour_J136 (wI (wI μ 13 0 1 0) 13 0 0 0)
                                else
                                  if inb a3 4 = true then
                                    if (lg_cmp ((Int32.toInt64 a4) + (Int32.toInt64 a5)) (Int32.toInt64 (rI μ 58 0 (ix a3)))) ≤ 0 then
                                      if a4 ≤ a2 then
                                        X12_pour_J153 a1 a2 a3 a4 a5 0 (wI (wI μ 13 0 1 0) 13 0 0 0)
                                      else
                                        X12_pour_J153 a1 a2 a3 a4 a5 1 (wI (wI μ 13 0 1 0) 13 0 0 0)
                                    else
                                      X12_pour_J136 (wI (wI μ 13 0 1 0) 13 0 0 0)
                                  else none
                              else none
                        else
                          bI (X12_no 6 (wI (wI μ 13 0 1 0) 13 0 0 0)) fun x1 μ2 =>
                            if x1 = 0 ∨ x1 = 1 then some (x1, μ2) else none
                      else
                        bI (X12_no 11 (wI (wI μ 13 0 1 0) 13 0 0 0)) fun x3 μ4 =>
                          if x3 = 0 ∨ x3 = 1 then some (x3, μ4) else none
                    else none
                  else none
                else
                  X12_pour_J52 (wI (wI μ 13 0 1 0) 13 0 0 0)
              else none
          else none
        else
          X12_pour_J28 (wI (wI μ 13 0 1 0) 13 0 0 0)
theorem tX12_pour (a1 : Int32) (a2 : Int32) (a3 : Int32) (a4 : Int32) (a5 : Int32) (μ : sM) : sMt yX12_pour cX12_pour 9 (some .boolean) 2 [vr 13 0, vi a1, vi a2, vi a3, vi a4, vi a5] μ (oI (X12_pour a1 a2 a3 a4 a5 μ)) := by
  refine sMt_of (own := 12) (bl := true) (by decide +kernel) rfl (Nat.le_of_ble_eq_true rfl) (fun r ρ h => ?_) ?_
  · obtain ⟨q, -, hq⟩ := Option.map_eq_some_iff.mp h
    cases hq
    exact Or.inr ⟨rfl, rfl⟩
  · unfold X12_pour
    show sOk 12 cX12_pour 9 2 true 0 [(0, vr 13 0), (1, vi a1), (2, vi a2), (3, vi a3), (4, vi a4), (5, vi a5)] [] μ _
    refine sBk (lo' := [(0, vr 13 0), (1, vi a1), (2, vi a2), (3, vi a3), (4, vi a4), (5, vi a5)]) (st' := [vi a1]) (μ' := wI (wI μ 13 0 1 0) 13 0 0 0) (pc' := 11) [(.aload_n 0, 0, 0, 0, 0), (.iconst 0, 0, 0, 0, 0), (.putfield 72, 12, 1, 0, 0), (.aload_n 0, 0, 0, 0, 0), (.iconst 0, 0, 0, 0, 0), (.putfield 75, 12, 0, 0, 0), (.iload_n 1, 0, 0, 0, 0)] (by decide +kernel) rfl rfl ?_
    refine sIf_lt oI (off := 17) (tgt := 28) (by decide +kernel) (by decide) (fun _ => ?_) (fun _ => ?_)
    · refine sWk (lo' := [(0, vr 13 0)]) [0] rfl ?_
      exact X12_pour_J28_ok (wI (wI μ 13 0 1 0) 13 0 0 0)
    · refine sBk (lo' := [(0, vr 13 0), (1, vi a1), (2, vi a2), (3, vi a3), (4, vi a4), (5, vi a5)]) (st' := [vi 4, vi a1]) (μ' := wI (wI μ 13 0 1 0) 13 0 0 0) (pc' := 16) [(.iload_n 1, 0, 0, 0, 0), (.iconst 4, 0, 0, 4, 0)] (by decide +kernel) rfl rfl ?_
      refine sIc_ge oI (off := 12) (tgt := 28) (by decide +kernel) (by decide) (fun _ => ?_) (fun _ => ?_)
      · refine sWk (lo' := [(0, vr 13 0)]) [0] rfl ?_
        exact X12_pour_J28_ok (wI (wI μ 13 0 1 0) 13 0 0 0)
      · refine sBk (lo' := [(0, vr 13 0), (1, vi a1), (2, vi a2), (3, vi a3), (4, vi a4), (5, vi a5)]) (st' := [vi a3]) (μ' := wI (wI μ 13 0 1 0) 13 0 0 0) (pc' := 20) [(.iload_n 3, 0, 0, 0, 0)] (by decide +kernel) rfl rfl ?_
        refine sIf_lt oI (off := 8) (tgt := 28) (by decide +kernel) (by decide) (fun _ => ?_) (fun _ => ?_)
        · refine sWk (lo' := [(0, vr 13 0)]) [0] rfl ?_
          exact X12_pour_J28_ok (wI (wI μ 13 0 1 0) 13 0 0 0)
        · refine sBk (lo' := [(0, vr 13 0), (1, vi a1), (2, vi a2), (3, vi a3), (4, vi a4), (5, vi a5)]) (st' := [vi 4, vi a3]) (μ' := wI (wI μ 13 0 1 0) 13 0 0 0) (pc' := 25) [(.iload_n 3, 0, 0, 0, 0), (.iconst 4, 0, 0, 4, 0)] (by decide +kernel) rfl rfl ?_
          refine sIc_lt oI (off := 9) (tgt := 34) (by decide +kernel) (by decide) (fun _ => ?_) (fun _ => ?_)
          · refine sBk (lo' := [(0, vr 13 0), (1, vi a1), (2, vi a2), (3, vi a3), (4, vi a4), (5, vi a5)]) (st' := [vi a1, vr 58 0]) (μ' := wI (wI μ 13 0 1 0) 13 0 0 0) (pc' := 39) [(.aload_n 0, 0, 0, 0, 0), (.getfield 17, 12, 5, 0, 0), (.iload_n 1, 0, 0, 0, 0)] (by decide +kernel) rfl rfl ?_
            refine sS_ial oI rfl (n := 4) (j := (ix a1)) (by decide +kernel) rfl rfl rfl (fun _ => ?_)
            refine sIf_lt oI (off := 12) (tgt := 52) (by decide +kernel) (by decide) (fun _ => ?_) (fun _ => ?_)
            · refine sWk (lo' := [(0, vr 13 0)]) [0] rfl ?_
              exact X12_pour_J52_ok (wI (wI μ 13 0 1 0) 13 0 0 0)
            · refine sBk (lo' := [(0, vr 13 0), (1, vi a1), (2, vi a2), (3, vi a3), (4, vi a4), (5, vi a5)]) (st' := [vi a3, vr 58 0]) (μ' := wI (wI μ 13 0 1 0) 13 0 0 0) (pc' := 48) [(.aload_n 0, 0, 0, 0, 0), (.getfield 17, 12, 5, 0, 0), (.iload_n 3, 0, 0, 0, 0)] (by decide +kernel) rfl rfl ?_
              refine sS_ial oI rfl (n := 4) (j := (ix a3)) (by decide +kernel) rfl rfl rfl (fun _ => ?_)
              refine sIf_ge oI (off := 9) (tgt := 58) (by decide +kernel) (by decide) (fun _ => ?_) (fun _ => ?_)
              · refine sBk (lo' := [(0, vr 13 0), (1, vi a1), (2, vi a2), (3, vi a3), (4, vi a4), (5, vi a5)]) (st' := [vi a1, vr 57 0]) (μ' := wI (wI μ 13 0 1 0) 13 0 0 0) (pc' := 63) [(.aload_n 0, 0, 0, 0, 0), (.getfield 13, 12, 4, 0, 0), (.iload_n 1, 0, 0, 0, 0)] (by decide +kernel) rfl rfl ?_
                refine sS_ial oI rfl (n := 4) (j := (ix a1)) (by decide +kernel) rfl rfl rfl (fun _ => ?_)
                refine sBk (lo' := [(0, vr 13 0), (1, vi a1), (2, vi a2), (3, vi a3), (4, vi a4), (5, vi a5)]) (st' := [vi a3, vr 57 0, vi (rI μ 57 0 (ix a1))]) (μ' := wI (wI μ 13 0 1 0) 13 0 0 0) (pc' := 69) [(.aload_n 0, 0, 0, 0, 0), (.getfield 13, 12, 4, 0, 0), (.iload_n 3, 0, 0, 0, 0)] (by decide +kernel) rfl rfl ?_
                refine sS_ial oI rfl (n := 4) (j := (ix a3)) (by decide +kernel) rfl rfl rfl (fun _ => ?_)
                refine sIc_eq oI (off := 10) (tgt := 80) (by decide +kernel) (by decide) (fun _ => ?_) (fun _ => ?_)
                · refine sBk (lo' := [(0, vr 13 0), (1, vi a1), (2, vi a2), (3, vi a3), (4, vi a4), (5, vi a5)]) (st' := [vi a5]) (μ' := wI (wI μ 13 0 1 0) 13 0 0 0) (pc' := 82) [(.iload 5, 0, 0, 0, 0)] (by decide +kernel) rfl rfl ?_
                  refine sIf_ge oI (off := 10) (tgt := 92) (by decide +kernel) (by decide) (fun _ => ?_) (fun _ => ?_)
                  · refine sBk (lo' := [(0, vr 13 0), (1, vi a1), (2, vi a2), (3, vi a3), (4, vi a4), (5, vi a5)]) (st' := [vi a2]) (μ' := wI (wI μ 13 0 1 0) 13 0 0 0) (pc' := 93) [(.iload_n 2, 0, 0, 0, 0)] (by decide +kernel) rfl rfl ?_
                    refine sIf_lt oI (off := 43) (tgt := 136) (by decide +kernel) (by decide) (fun _ => ?_) (fun _ => ?_)
                    · refine sWk (lo' := [(0, vr 13 0)]) [0] rfl ?_
                      exact X12_pour_J136_ok (wI (wI μ 13 0 1 0) 13 0 0 0)
                    · refine sBk (lo' := [(0, vr 13 0), (1, vi a1), (2, vi a2), (3, vi a3), (4, vi a4), (5, vi a5)]) (st' := [vi a4]) (μ' := wI (wI μ 13 0 1 0) 13 0 0 0) (pc' := 98) [(.iload 4, 0, 0, 0, 0)] (by decide +kernel) rfl rfl ?_
                      refine sIf_lt oI (off := 38) (tgt := 136) (by decide +kernel) (by decide) (fun _ => ?_) (fun _ => ?_)
                      · refine sWk (lo' := [(0, vr 13 0)]) [0] rfl ?_
                        exact X12_pour_J136_ok (wI (wI μ 13 0 1 0) 13 0 0 0)
                      · refine sBk (lo' := [(0, vr 13 0), (1, vi a1), (2, vi a2), (3, vi a3), (4, vi a4), (5, vi a5)]) (st' := [vi a1, vr 58 0, vl ((Int32.toInt64 a2) + (Int32.toInt64 a5))]) (μ' := wI (wI μ 13 0 1 0) 13 0 0 0) (pc' := 112) [(.iload_n 2, 0, 0, 0, 0), (.i2l, 0, 0, 0, 0), (.iload 5, 0, 0, 0, 0), (.i2l, 0, 0, 0, 0), (.ladd, 0, 0, 0, 0), (.aload_n 0, 0, 0, 0, 0), (.getfield 17, 12, 5, 0, 0), (.iload_n 1, 0, 0, 0, 0)] (by decide +kernel) rfl rfl ?_
                        refine sS_ial oI rfl (n := 4) (j := (ix a1)) (by decide +kernel) rfl rfl rfl (fun _ => ?_)
                        refine sBk (lo' := [(0, vr 13 0), (1, vi a1), (2, vi a2), (3, vi a3), (4, vi a4), (5, vi a5)]) (st' := [vi (lg_cmp ((Int32.toInt64 a2) + (Int32.toInt64 a5)) (Int32.toInt64 (rI μ 58 0 (ix a1))))]) (μ' := wI (wI μ 13 0 1 0) 13 0 0 0) (pc' := 115) [(.i2l, 0, 0, 0, 0), (.lcmp, 0, 0, 0, 0)] (by decide +kernel) rfl rfl ?_
                        refine sIf_gt oI (off := 21) (tgt := 136) (by decide +kernel) (by decide) (fun _ => ?_) (fun _ => ?_)
                        · refine sWk (lo' := [(0, vr 13 0)]) [0] rfl ?_
                          exact X12_pour_J136_ok (wI (wI μ 13 0 1 0) 13 0 0 0)
                        · refine sBk (lo' := [(0, vr 13 0), (1, vi a1), (2, vi a2), (3, vi a3), (4, vi a4), (5, vi a5)]) (st' := [vi a3, vr 58 0, vl ((Int32.toInt64 a4) + (Int32.toInt64 a5))]) (μ' := wI (wI μ 13 0 1 0) 13 0 0 0) (pc' := 130) [(.iload 4, 0, 0, 0, 0), (.i2l, 0, 0, 0, 0), (.iload 5, 0, 0, 0, 0), (.i2l, 0, 0, 0, 0), (.ladd, 0, 0, 0, 0), (.aload_n 0, 0, 0, 0, 0), (.getfield 17, 12, 5, 0, 0), (.iload_n 3, 0, 0, 0, 0)] (by decide +kernel) rfl rfl ?_
                          refine sS_ial oI rfl (n := 4) (j := (ix a3)) (by decide +kernel) rfl rfl rfl (fun _ => ?_)
                          refine sBk (lo' := [(0, vr 13 0), (1, vi a1), (2, vi a2), (3, vi a3), (4, vi a4), (5, vi a5)]) (st' := [vi (lg_cmp ((Int32.toInt64 a4) + (Int32.toInt64 a5)) (Int32.toInt64 (rI μ 58 0 (ix a3))))]) (μ' := wI (wI μ 13 0 1 0) 13 0 0 0) (pc' := 133) [(.i2l, 0, 0, 0, 0), (.lcmp, 0, 0, 0, 0)] (by decide +kernel) rfl rfl ?_
                          refine sIf_le oI (off := 9) (tgt := 142) (by decide +kernel) (by decide) (fun _ => ?_) (fun _ => ?_)
                          · refine sBk (lo' := [(0, vr 13 0), (1, vi a1), (2, vi a2), (3, vi a3), (4, vi a4), (5, vi a5)]) (st' := [vi a4, vi a2]) (μ' := wI (wI μ 13 0 1 0) 13 0 0 0) (pc' := 145) [(.iload_n 2, 0, 0, 0, 0), (.iload 4, 0, 0, 0, 0)] (by decide +kernel) rfl rfl ?_
                            refine sIc_ge oI (off := 7) (tgt := 152) (by decide +kernel) (by decide) (fun _ => ?_) (fun _ => ?_)
                            · refine sBk (lo' := [(0, vr 13 0), (1, vi a1), (2, vi a2), (3, vi a3), (4, vi a4), (5, vi a5)]) (st' := [vi 0]) (μ' := wI (wI μ 13 0 1 0) 13 0 0 0) (pc' := 153) [(.iconst 0, 0, 0, 0, 0)] (by decide +kernel) rfl rfl ?_
                              exact X12_pour_J153_ok a1 a2 a3 a4 a5 0 (wI (wI μ 13 0 1 0) 13 0 0 0)
                            · refine sBk (lo' := [(0, vr 13 0), (1, vi a1), (2, vi a2), (3, vi a3), (4, vi a4), (5, vi a5)]) (st' := [vi 1]) (μ' := wI (wI μ 13 0 1 0) 13 0 0 0) (pc' := 149) [(.iconst 1, 0, 0, 1, 0)] (by decide +kernel) rfl rfl ?_
                              refine sGt (off := 4) (tgt := 153) (by decide +kernel) (by decide) ?_
                              exact X12_pour_J153_ok a1 a2 a3 a4 a5 1 (wI (wI μ 13 0 1 0) 13 0 0 0)
                          · refine sWk (lo' := [(0, vr 13 0)]) [0] rfl ?_
                            exact X12_pour_J136_ok (wI (wI μ 13 0 1 0) 13 0 0 0)
                  · refine sBk (lo' := [(0, vr 13 0), (1, vi a1), (2, vi a2), (3, vi a3), (4, vi a4), (5, vi a5)]) (st' := [vi 6, vr 13 0]) (μ' := wI (wI μ 13 0 1 0) 13 0 0 0) (pc' := 88) [(.aload_n 0, 0, 0, 0, 0), (.bipush 6, 0, 0, 6, 0)] (by decide +kernel) rfl rfl ?_
                    refine sCvI oI rfl (ci := 12) (q := (13, 0)) (avs := [vi 6]) (rest := []) (tX12_no 6 (wI (wI μ 13 0 1 0) 13 0 0 0)) (by decide) (by decide +kernel) lk_12_87 yv_X12_no rfl (by decide) rfl rfl rfl (Nat.le_of_ble_eq_true rfl) (fun x1 μ2 => ?_)
                    exact sCk oI rfl (fun h => sRi (by decide +kernel) (fun _ => h))
                · refine sBk (lo' := [(0, vr 13 0), (1, vi a1), (2, vi a2), (3, vi a3), (4, vi a4), (5, vi a5)]) (st' := [vi 11, vr 13 0]) (μ' := wI (wI μ 13 0 1 0) 13 0 0 0) (pc' := 76) [(.aload_n 0, 0, 0, 0, 0), (.bipush 11, 0, 0, 11, 0)] (by decide +kernel) rfl rfl ?_
                  refine sCvI oI rfl (ci := 12) (q := (13, 0)) (avs := [vi 11]) (rest := []) (tX12_no 11 (wI (wI μ 13 0 1 0) 13 0 0 0)) (by decide) (by decide +kernel) lk_12_87 yv_X12_no rfl (by decide) rfl rfl rfl (Nat.le_of_ble_eq_true rfl) (fun x3 μ4 => ?_)
                  exact sCk oI rfl (fun h => sRi (by decide +kernel) (fun _ => h))
              · refine sWk (lo' := [(0, vr 13 0)]) [0] rfl ?_
                exact X12_pour_J52_ok (wI (wI μ 13 0 1 0) 13 0 0 0)
          · refine sWk (lo' := [(0, vr 13 0)]) [0] rfl ?_
            exact X12_pour_J28_ok (wI (wI μ 13 0 1 0) 13 0 0 0)
/-! ClockRiverModel.lay -/
def X12_lay_L2 : Nat → Int32 → Int32 → sM → Option sM
  | 0, _, _, _ => none
  | n + 1, v1, v2, μ =>
    if v2 < 0 then
      some μ
    else
      if inb (rI μ 13 0 8) 900 = true then
        X12_lay_L2 n v1 (v2 + (-1)) (wI (wI μ 60 0 (ix (rI μ 13 0 8)) (Int8.toInt32 (Int32.toInt8 (Int8.toInt32 (Int32.toInt8 (isr v1 (8 * v2))))))) 13 0 8 ((rI μ 13 0 8) + 1))
      else none
theorem X12_lay_L2_ok : ∀ (n : Nat) (v1 : Int32) (v2 : Int32) (μ : sM), sOk 12 cX12_lay 3 1 false 2 [(0, vr 13 0), (1, vi v1), (2, vi v2)] [] μ (oV (X12_lay_L2 n v1 v2 μ)) := by
  intro n
  induction n with
  | zero =>
    intros
    exact sNo
  | succ n ih =>
    intro v1 v2 μ
    unfold X12_lay_L2
    refine sBk (lo' := [(0, vr 13 0), (1, vi v1), (2, vi v2)]) (st' := [vi v2]) (μ' := μ) (pc' := 3) [(.iload_n 2, 0, 0, 0, 0)] (by decide +kernel) rfl rfl ?_
    refine sIf_lt oV (off := 35) (tgt := 38) (by decide +kernel) (by decide) (fun _ => ?_) (fun _ => ?_)
    · exact sRv (by decide +kernel)
    · refine sBk (lo' := [(0, vr 13 0), (1, vi v1), (2, vi v2)]) (st' := [vi (Int8.toInt32 (Int32.toInt8 (isr v1 (8 * v2)))), vi (rI μ 13 0 8), vr 60 0]) (μ' := μ) (pc' := 21) [(.aload_n 0, 0, 0, 0, 0), (.getfield 24, 12, 7, 0, 0), (.aload_n 0, 0, 0, 0, 0), (.getfield 241, 12, 8, 0, 0), (.iload_n 1, 0, 0, 0, 0), (.bipush 8, 0, 0, 8, 0), (.iload_n 2, 0, 0, 0, 0), (.imul, 0, 0, 0, 0), (.ishr, 0, 0, 0, 0), (.i2b, 0, 0, 0, 0)] (by decide +kernel) rfl rfl ?_
      refine sS_bas oV rfl (n := 900) (j := (ix (rI μ 13 0 8))) (by decide +kernel) rfl rfl rfl (fun _ => ?_)
      refine sBk (lo' := [(2, vi (v2 + (-1))), (0, vr 13 0), (1, vi v1)]) (st' := []) (μ' := wI (wI μ 60 0 (ix (rI μ 13 0 8)) (Int8.toInt32 (Int32.toInt8 (Int8.toInt32 (Int32.toInt8 (isr v1 (8 * v2))))))) 13 0 8 ((rI μ 13 0 8) + 1)) (pc' := 35) [(.aload_n 0, 0, 0, 0, 0), (.dup, 0, 0, 0, 0), (.getfield 241, 12, 8, 0, 0), (.iconst 1, 0, 0, 1, 0), (.iadd, 0, 0, 0, 0), (.putfield 241, 12, 8, 0, 0), (.iinc 2 (-1), 0, 0, (-1), 0)] (by decide +kernel) rfl rfl ?_
      refine sGt (off := (-33)) (tgt := 2) (by decide +kernel) (by decide) ?_
      refine sWk (lo' := [(0, vr 13 0), (1, vi v1), (2, vi (v2 + (-1)))]) [1, 2, 0] rfl ?_
      exact ih v1 (v2 + (-1)) (wI (wI μ 60 0 (ix (rI μ 13 0 8)) (Int8.toInt32 (Int32.toInt8 (Int8.toInt32 (Int32.toInt8 (isr v1 (8 * v2))))))) 13 0 8 ((rI μ 13 0 8) + 1))
def X12_lay (a1 : Int32) (μ : sM) : Option sM :=
  X12_lay_L2 fuN a1 3 μ
theorem tX12_lay (a1 : Int32) (μ : sM) : sMt yX12_lay cX12_lay 3 none 1 [vr 13 0, vi a1] μ (oV (X12_lay a1 μ)) := by
  refine sMt_of (own := 12) (bl := false) (by decide +kernel) rfl (Nat.le_of_ble_eq_true rfl) (fun r ρ h => ?_) ?_
  · obtain ⟨q, -, hq⟩ := Option.map_eq_some_iff.mp h
    cases hq
    exact rfl
  · unfold X12_lay
    show sOk 12 cX12_lay 3 1 false 0 [(0, vr 13 0), (1, vi a1)] [] μ _
    refine sBk (lo' := [(2, vi 3), (0, vr 13 0), (1, vi a1)]) (st' := []) (μ' := μ) (pc' := 2) [(.iconst 3, 0, 0, 3, 0), (.istore_n 2, 0, 0, 0, 0)] (by decide +kernel) rfl rfl ?_
    refine sWk (lo' := [(0, vr 13 0), (1, vi a1), (2, vi 3)]) [1, 2, 0] rfl ?_
    exact X12_lay_L2_ok fuN a1 3 μ
/-! ClockRiverModel.feed -/
def X12_feed (a1 : Int32) (a2 : Int32) (a3 : Int32) (a4 : Int32) (a5 : Int32) (μ : sM) : Option (Int32 × sM) :=
  if ((rI μ 13 0 8) + 20) ≤ 900 then
    bV (X12_lay a1 (wI μ 13 0 1 0)) fun μ2 =>
      bV (X12_lay a2 μ2) fun μ4 =>
        bV (X12_lay a3 μ4) fun μ6 =>
          bV (X12_lay a4 μ6) fun μ8 =>
            bV (X12_lay a5 μ8) fun μ10 =>
              some ((rI μ10 13 0 8), μ10)
  else
    some ((-1), wI μ 13 0 1 0)
theorem tX12_feed (a1 : Int32) (a2 : Int32) (a3 : Int32) (a4 : Int32) (a5 : Int32) (μ : sM) : sMt yX12_feed cX12_feed 6 (some .int) 2 [vr 13 0, vi a1, vi a2, vi a3, vi a4, vi a5] μ (oI (X12_feed a1 a2 a3 a4 a5 μ)) := by
  refine sMt_of (own := 12) (bl := false) (by decide +kernel) rfl (Nat.le_of_ble_eq_true rfl) (fun r ρ h => ?_) ?_
  · obtain ⟨q, -, hq⟩ := Option.map_eq_some_iff.mp h
    cases hq
    exact Or.inl rfl
  · unfold X12_feed
    show sOk 12 cX12_feed 6 2 false 0 [(0, vr 13 0), (1, vi a1), (2, vi a2), (3, vi a3), (4, vi a4), (5, vi a5)] [] μ _
    refine sBk (lo' := [(0, vr 13 0), (1, vi a1), (2, vi a2), (3, vi a3), (4, vi a4), (5, vi a5)]) (st' := [vi 900, vi ((rI μ 13 0 8) + 20)]) (μ' := wI μ 13 0 1 0) (pc' := 15) [(.aload_n 0, 0, 0, 0, 0), (.iconst 0, 0, 0, 0, 0), (.putfield 72, 12, 1, 0, 0), (.aload_n 0, 0, 0, 0, 0), (.getfield 241, 12, 8, 0, 0), (.bipush 20, 0, 0, 20, 0), (.iadd, 0, 0, 0, 0), (.sipush 900, 0, 0, 900, 0)] (by decide +kernel) rfl rfl ?_
    refine sIc_le oI (off := 5) (tgt := 20) (by decide +kernel) (by decide) (fun _ => ?_) (fun _ => ?_)
    · refine sBk (lo' := [(0, vr 13 0), (1, vi a1), (2, vi a2), (3, vi a3), (4, vi a4), (5, vi a5)]) (st' := [vi a1, vr 13 0]) (μ' := wI μ 13 0 1 0) (pc' := 22) [(.aload_n 0, 0, 0, 0, 0), (.iload_n 1, 0, 0, 0, 0)] (by decide +kernel) rfl rfl ?_
      refine sCvV oI rfl (ci := 12) (q := (13, 0)) (avs := [vi a1]) (rest := []) (tX12_lay a1 (wI μ 13 0 1 0)) (by decide) (by decide +kernel) lk_12_244 yv_X12_lay rfl (by decide) rfl rfl rfl (Nat.le_of_ble_eq_true rfl) (fun μ2 => ?_)
      refine sBk (lo' := [(0, vr 13 0), (1, vi a1), (2, vi a2), (3, vi a3), (4, vi a4), (5, vi a5)]) (st' := [vi a2, vr 13 0]) (μ' := μ2) (pc' := 27) [(.aload_n 0, 0, 0, 0, 0), (.iload_n 2, 0, 0, 0, 0)] (by decide +kernel) rfl rfl ?_
      refine sCvV oI rfl (ci := 12) (q := (13, 0)) (avs := [vi a2]) (rest := []) (tX12_lay a2 μ2) (by decide) (by decide +kernel) lk_12_244 yv_X12_lay rfl (by decide) rfl rfl rfl (Nat.le_of_ble_eq_true rfl) (fun μ4 => ?_)
      refine sBk (lo' := [(0, vr 13 0), (1, vi a1), (2, vi a2), (3, vi a3), (4, vi a4), (5, vi a5)]) (st' := [vi a3, vr 13 0]) (μ' := μ4) (pc' := 32) [(.aload_n 0, 0, 0, 0, 0), (.iload_n 3, 0, 0, 0, 0)] (by decide +kernel) rfl rfl ?_
      refine sCvV oI rfl (ci := 12) (q := (13, 0)) (avs := [vi a3]) (rest := []) (tX12_lay a3 μ4) (by decide) (by decide +kernel) lk_12_244 yv_X12_lay rfl (by decide) rfl rfl rfl (Nat.le_of_ble_eq_true rfl) (fun μ6 => ?_)
      refine sBk (lo' := [(0, vr 13 0), (1, vi a1), (2, vi a2), (3, vi a3), (4, vi a4), (5, vi a5)]) (st' := [vi a4, vr 13 0]) (μ' := μ6) (pc' := 38) [(.aload_n 0, 0, 0, 0, 0), (.iload 4, 0, 0, 0, 0)] (by decide +kernel) rfl rfl ?_
      refine sCvV oI rfl (ci := 12) (q := (13, 0)) (avs := [vi a4]) (rest := []) (tX12_lay a4 μ6) (by decide) (by decide +kernel) lk_12_244 yv_X12_lay rfl (by decide) rfl rfl rfl (Nat.le_of_ble_eq_true rfl) (fun μ8 => ?_)
      refine sBk (lo' := [(0, vr 13 0), (1, vi a1), (2, vi a2), (3, vi a3), (4, vi a4), (5, vi a5)]) (st' := [vi a5, vr 13 0]) (μ' := μ8) (pc' := 44) [(.aload_n 0, 0, 0, 0, 0), (.iload 5, 0, 0, 0, 0)] (by decide +kernel) rfl rfl ?_
      refine sCvV oI rfl (ci := 12) (q := (13, 0)) (avs := [vi a5]) (rest := []) (tX12_lay a5 μ8) (by decide) (by decide +kernel) lk_12_244 yv_X12_lay rfl (by decide) rfl rfl rfl (Nat.le_of_ble_eq_true rfl) (fun μ10 => ?_)
      refine sBk (lo' := [(0, vr 13 0), (1, vi a1), (2, vi a2), (3, vi a3), (4, vi a4), (5, vi a5)]) (st' := [vi (rI μ10 13 0 8)]) (μ' := μ10) (pc' := 51) [(.aload_n 0, 0, 0, 0, 0), (.getfield 241, 12, 8, 0, 0)] (by decide +kernel) rfl rfl ?_
      exact sRi (by decide +kernel) (fun h => by cases h)
    · refine sBk (lo' := [(0, vr 13 0), (1, vi a1), (2, vi a2), (3, vi a3), (4, vi a4), (5, vi a5)]) (st' := [vi (-1)]) (μ' := wI μ 13 0 1 0) (pc' := 19) [(.iconst (-1), 0, 0, (-1), 0)] (by decide +kernel) rfl rfl ?_
      exact sRi (by decide +kernel) (fun h => by cases h)
/-! ClockRiverModel.look2 -/
def X12_look2 (a1 : Int32) (μ : sM) : Option (Int32 × sM) :=
  if (rI μ 13 0 9) ≤ a1 then
    some (0, μ)
  else
    if inb a1 900 = true then
      some (((rI μ 60 0 (ix a1)) &&& 255), μ)
    else none
theorem tX12_look2 (a1 : Int32) (μ : sM) : sMt yX12_look2 cX12_look2 2 (some .int) 1 [vr 13 0, vi a1] μ (oI (X12_look2 a1 μ)) := by
  refine sMt_of (own := 12) (bl := false) (by decide +kernel) rfl (Nat.le_of_ble_eq_true rfl) (fun r ρ h => ?_) ?_
  · obtain ⟨q, -, hq⟩ := Option.map_eq_some_iff.mp h
    cases hq
    exact Or.inl rfl
  · unfold X12_look2
    show sOk 12 cX12_look2 2 1 false 0 [(0, vr 13 0), (1, vi a1)] [] μ _
    refine sBk (lo' := [(0, vr 13 0), (1, vi a1)]) (st' := [vi (rI μ 13 0 9), vi a1]) (μ' := μ) (pc' := 5) [(.iload_n 1, 0, 0, 0, 0), (.aload_n 0, 0, 0, 0, 0), (.getfield 111, 12, 9, 0, 0)] (by decide +kernel) rfl rfl ?_
    refine sIc_ge oI (off := 16) (tgt := 21) (by decide +kernel) (by decide) (fun _ => ?_) (fun _ => ?_)
    · refine sBk (lo' := [(0, vr 13 0), (1, vi a1)]) (st' := [vi 0]) (μ' := μ) (pc' := 22) [(.iconst 0, 0, 0, 0, 0)] (by decide +kernel) rfl rfl ?_
      exact sRi (by decide +kernel) (fun h => by cases h)
    · refine sBk (lo' := [(0, vr 13 0), (1, vi a1)]) (st' := [vi a1, vr 60 0]) (μ' := μ) (pc' := 13) [(.aload_n 0, 0, 0, 0, 0), (.getfield 24, 12, 7, 0, 0), (.iload_n 1, 0, 0, 0, 0)] (by decide +kernel) rfl rfl ?_
      refine sS_bal oI rfl (n := 900) (j := (ix a1)) (by decide +kernel) rfl rfl rfl (fun _ => ?_)
      refine sBk (lo' := [(0, vr 13 0), (1, vi a1)]) (st' := [vi ((rI μ 60 0 (ix a1)) &&& 255)]) (μ' := μ) (pc' := 18) [(.sipush 255, 0, 0, 255, 0), (.iand, 0, 0, 0, 0)] (by decide +kernel) rfl rfl ?_
      refine sGt (off := 4) (tgt := 22) (by decide +kernel) (by decide) ?_
      exact sRi (by decide +kernel) (fun h => by cases h)
/-! ClockRiverModel.isLetter -/
def X12_isLetter (a0 : Int32) (μ : sM) : Option (Int32 × sM) :=
  if a0 < 97 then
    some (0, μ)
  else
    if 122 < a0 then
      some (0, μ)
    else
      some (1, μ)
theorem tX12_isLetter (a0 : Int32) (μ : sM) : sMt yX12_isLetter cX12_isLetter 1 (some .boolean) 1 [vi a0] μ (oI (X12_isLetter a0 μ)) := by
  refine sMt_of (own := 12) (bl := true) (by decide +kernel) rfl (Nat.le_of_ble_eq_true rfl) (fun r ρ h => ?_) ?_
  · obtain ⟨q, -, hq⟩ := Option.map_eq_some_iff.mp h
    cases hq
    exact Or.inr ⟨rfl, rfl⟩
  · unfold X12_isLetter
    show sOk 12 cX12_isLetter 1 1 true 0 [(0, vi a0)] [] μ _
    refine sBk (lo' := [(0, vi a0)]) (st' := [vi 97, vi a0]) (μ' := μ) (pc' := 3) [(.iload_n 0, 0, 0, 0, 0), (.bipush 97, 0, 0, 97, 0)] (by decide +kernel) rfl rfl ?_
    refine sIc_lt oI (off := 13) (tgt := 16) (by decide +kernel) (by decide) (fun _ => ?_) (fun _ => ?_)
    · refine sBk (lo' := [(0, vi a0)]) (st' := [vi 0]) (μ' := μ) (pc' := 17) [(.iconst 0, 0, 0, 0, 0)] (by decide +kernel) rfl rfl ?_
      exact sRi (by decide +kernel) (fun _ => Or.inl rfl)
    · refine sBk (lo' := [(0, vi a0)]) (st' := [vi 122, vi a0]) (μ' := μ) (pc' := 9) [(.iload_n 0, 0, 0, 0, 0), (.bipush 122, 0, 0, 122, 0)] (by decide +kernel) rfl rfl ?_
      refine sIc_gt oI (off := 7) (tgt := 16) (by decide +kernel) (by decide) (fun _ => ?_) (fun _ => ?_)
      · refine sBk (lo' := [(0, vi a0)]) (st' := [vi 0]) (μ' := μ) (pc' := 17) [(.iconst 0, 0, 0, 0, 0)] (by decide +kernel) rfl rfl ?_
        exact sRi (by decide +kernel) (fun _ => Or.inl rfl)
      · refine sBk (lo' := [(0, vi a0)]) (st' := [vi 1]) (μ' := μ) (pc' := 13) [(.iconst 1, 0, 0, 1, 0)] (by decide +kernel) rfl rfl ?_
        refine sGt (off := 4) (tgt := 17) (by decide +kernel) (by decide) ?_
        exact sRi (by decide +kernel) (fun _ => Or.inr rfl)
/-! ClockRiverModel.isDigit -/
def X12_isDigit (a0 : Int32) (μ : sM) : Option (Int32 × sM) :=
  if a0 < 48 then
    some (0, μ)
  else
    if 57 < a0 then
      some (0, μ)
    else
      some (1, μ)
theorem tX12_isDigit (a0 : Int32) (μ : sM) : sMt yX12_isDigit cX12_isDigit 1 (some .boolean) 1 [vi a0] μ (oI (X12_isDigit a0 μ)) := by
  refine sMt_of (own := 12) (bl := true) (by decide +kernel) rfl (Nat.le_of_ble_eq_true rfl) (fun r ρ h => ?_) ?_
  · obtain ⟨q, -, hq⟩ := Option.map_eq_some_iff.mp h
    cases hq
    exact Or.inr ⟨rfl, rfl⟩
  · unfold X12_isDigit
    show sOk 12 cX12_isDigit 1 1 true 0 [(0, vi a0)] [] μ _
    refine sBk (lo' := [(0, vi a0)]) (st' := [vi 48, vi a0]) (μ' := μ) (pc' := 3) [(.iload_n 0, 0, 0, 0, 0), (.bipush 48, 0, 0, 48, 0)] (by decide +kernel) rfl rfl ?_
    refine sIc_lt oI (off := 13) (tgt := 16) (by decide +kernel) (by decide) (fun _ => ?_) (fun _ => ?_)
    · refine sBk (lo' := [(0, vi a0)]) (st' := [vi 0]) (μ' := μ) (pc' := 17) [(.iconst 0, 0, 0, 0, 0)] (by decide +kernel) rfl rfl ?_
      exact sRi (by decide +kernel) (fun _ => Or.inl rfl)
    · refine sBk (lo' := [(0, vi a0)]) (st' := [vi 57, vi a0]) (μ' := μ) (pc' := 9) [(.iload_n 0, 0, 0, 0, 0), (.bipush 57, 0, 0, 57, 0)] (by decide +kernel) rfl rfl ?_
      refine sIc_gt oI (off := 7) (tgt := 16) (by decide +kernel) (by decide) (fun _ => ?_) (fun _ => ?_)
      · refine sBk (lo' := [(0, vi a0)]) (st' := [vi 0]) (μ' := μ) (pc' := 17) [(.iconst 0, 0, 0, 0, 0)] (by decide +kernel) rfl rfl ?_
        exact sRi (by decide +kernel) (fun _ => Or.inl rfl)
      · refine sBk (lo' := [(0, vi a0)]) (st' := [vi 1]) (μ' := μ) (pc' := 13) [(.iconst 1, 0, 0, 1, 0)] (by decide +kernel) rfl rfl ?_
        refine sGt (off := 4) (tgt := 17) (by decide +kernel) (by decide) ?_
        exact sRi (by decide +kernel) (fun _ => Or.inr rfl)
/-! ClockRiverModel.isSignByte -/
def X12_isSignByte (a1 : Int32) (μ : sM) : Option (Int32 × sM) :=
  if a1 = 59 then
    some (1, μ)
  else
    if a1 = 60 then
      some (1, μ)
    else
      if a1 = 62 then
        some (1, μ)
      else
        if a1 = 61 then
          some (1, μ)
        else
          some (0, μ)
theorem tX12_isSignByte (a1 : Int32) (μ : sM) : sMt yX12_isSignByte cX12_isSignByte 2 (some .boolean) 1 [vr 13 0, vi a1] μ (oI (X12_isSignByte a1 μ)) := by
  refine sMt_of (own := 12) (bl := true) (by decide +kernel) rfl (Nat.le_of_ble_eq_true rfl) (fun r ρ h => ?_) ?_
  · obtain ⟨q, -, hq⟩ := Option.map_eq_some_iff.mp h
    cases hq
    exact Or.inr ⟨rfl, rfl⟩
  · unfold X12_isSignByte
    show sOk 12 cX12_isSignByte 2 1 true 0 [(0, vr 13 0), (1, vi a1)] [] μ _
    refine sBk (lo' := [(0, vr 13 0), (1, vi a1)]) (st' := [vi 59, vi a1]) (μ' := μ) (pc' := 3) [(.iload_n 1, 0, 0, 0, 0), (.bipush 59, 0, 0, 59, 0)] (by decide +kernel) rfl rfl ?_
    refine sIc_eq oI (off := 21) (tgt := 24) (by decide +kernel) (by decide) (fun _ => ?_) (fun _ => ?_)
    · refine sBk (lo' := [(0, vr 13 0), (1, vi a1)]) (st' := [vi 1]) (μ' := μ) (pc' := 25) [(.iconst 1, 0, 0, 1, 0)] (by decide +kernel) rfl rfl ?_
      refine sGt (off := 4) (tgt := 29) (by decide +kernel) (by decide) ?_
      exact sRi (by decide +kernel) (fun _ => Or.inr rfl)
    · refine sBk (lo' := [(0, vr 13 0), (1, vi a1)]) (st' := [vi 60, vi a1]) (μ' := μ) (pc' := 9) [(.iload_n 1, 0, 0, 0, 0), (.bipush 60, 0, 0, 60, 0)] (by decide +kernel) rfl rfl ?_
      refine sIc_eq oI (off := 15) (tgt := 24) (by decide +kernel) (by decide) (fun _ => ?_) (fun _ => ?_)
      · refine sBk (lo' := [(0, vr 13 0), (1, vi a1)]) (st' := [vi 1]) (μ' := μ) (pc' := 25) [(.iconst 1, 0, 0, 1, 0)] (by decide +kernel) rfl rfl ?_
        refine sGt (off := 4) (tgt := 29) (by decide +kernel) (by decide) ?_
        exact sRi (by decide +kernel) (fun _ => Or.inr rfl)
      · refine sBk (lo' := [(0, vr 13 0), (1, vi a1)]) (st' := [vi 62, vi a1]) (μ' := μ) (pc' := 15) [(.iload_n 1, 0, 0, 0, 0), (.bipush 62, 0, 0, 62, 0)] (by decide +kernel) rfl rfl ?_
        refine sIc_eq oI (off := 9) (tgt := 24) (by decide +kernel) (by decide) (fun _ => ?_) (fun _ => ?_)
        · refine sBk (lo' := [(0, vr 13 0), (1, vi a1)]) (st' := [vi 1]) (μ' := μ) (pc' := 25) [(.iconst 1, 0, 0, 1, 0)] (by decide +kernel) rfl rfl ?_
          refine sGt (off := 4) (tgt := 29) (by decide +kernel) (by decide) ?_
          exact sRi (by decide +kernel) (fun _ => Or.inr rfl)
        · refine sBk (lo' := [(0, vr 13 0), (1, vi a1)]) (st' := [vi 61, vi a1]) (μ' := μ) (pc' := 21) [(.iload_n 1, 0, 0, 0, 0), (.bipush 61, 0, 0, 61, 0)] (by decide +kernel) rfl rfl ?_
          refine sIc_ne oI (off := 7) (tgt := 28) (by decide +kernel) (by decide) (fun _ => ?_) (fun _ => ?_)
          · refine sBk (lo' := [(0, vr 13 0), (1, vi a1)]) (st' := [vi 0]) (μ' := μ) (pc' := 29) [(.iconst 0, 0, 0, 0, 0)] (by decide +kernel) rfl rfl ?_
            exact sRi (by decide +kernel) (fun _ => Or.inl rfl)
          · refine sBk (lo' := [(0, vr 13 0), (1, vi a1)]) (st' := [vi 1]) (μ' := μ) (pc' := 25) [(.iconst 1, 0, 0, 1, 0)] (by decide +kernel) rfl rfl ?_
            refine sGt (off := 4) (tgt := 29) (by decide +kernel) (by decide) ?_
            exact sRi (by decide +kernel) (fun _ => Or.inr rfl)
/-! ClockRiverModel.advance -/
def X12_advance_J45 (k8 : sM → Option sM) (μ : sM) : Option sM :=
  k8 (wI μ 13 0 15 ((rI μ 13 0 15) + 1))
theorem X12_advance_J45_ok {k8 : sM → Option sM} (hk8 : ∀ (μ : sM), sOk 12 cX12_advance 2 2 false 8 [(0, vr 13 0)] [] μ (oV (k8 μ))) (μ : sM) : sOk 12 cX12_advance 2 2 false 45 [(0, vr 13 0)] [] μ (oV (X12_advance_J45 k8 μ)) := by
  unfold X12_advance_J45
  refine sBk (lo' := [(0, vr 13 0)]) (st' := []) (μ' := wI μ 13 0 15 ((rI μ 13 0 15) + 1)) (pc' := 55) [(.aload_n 0, 0, 0, 0, 0), (.dup, 0, 0, 0, 0), (.getfield 117, 12, 15, 0, 0), (.iconst 1, 0, 0, 1, 0), (.iadd, 0, 0, 0, 0), (.putfield 117, 12, 15, 0, 0)] (by decide +kernel) rfl rfl ?_
  refine sGt (off := (-47)) (tgt := 8) (by decide +kernel) (by decide) ?_
  exact hk8 (wI μ 13 0 15 ((rI μ 13 0 15) + 1))
def X12_advance_J166 (k109 : sM → Option sM) (s0 : Int64) (μ : sM) : Option sM :=
  k109 (wI (wL μ 13 0 19 s0) 13 0 16 ((rI μ 13 0 16) + 1))
theorem X12_advance_J166_ok {k109 : sM → Option sM} (hk109 : ∀ (μ : sM), sOk 12 cX12_advance 2 2 false 109 [(0, vr 13 0)] [] μ (oV (k109 μ))) (s0 : Int64) (μ : sM) : sOk 12 cX12_advance 2 2 false 166 [(0, vr 13 0)] [vl s0, vr 13 0] μ (oV (X12_advance_J166 k109 s0 μ)) := by
  unfold X12_advance_J166
  refine sBk (lo' := [(0, vr 13 0)]) (st' := []) (μ' := wI (wL μ 13 0 19 s0) 13 0 16 ((rI μ 13 0 16) + 1)) (pc' := 179) [(.putfield 129, 12, 19, 0, 0), (.aload_n 0, 0, 0, 0, 0), (.dup, 0, 0, 0, 0), (.getfield 114, 12, 16, 0, 0), (.iconst 1, 0, 0, 1, 0), (.iadd, 0, 0, 0, 0), (.putfield 114, 12, 16, 0, 0)] (by decide +kernel) rfl rfl ?_
  refine sGt (off := (-70)) (tgt := 109) (by decide +kernel) (by decide) ?_
  exact hk109 (wI (wL μ 13 0 19 s0) 13 0 16 ((rI μ 13 0 16) + 1))
def X12_advance_L109 : Nat → sM → Option sM
  | 0, _ => none
  | n + 1, μ =>
    bI (X12_look2 (rI μ 13 0 16) μ) fun x1 μ2 =>
      bI (X12_isLetter x1 μ2) fun x3 μ4 =>
        if x3 = 0 then
          some (wI μ4 13 0 18 ((rI μ4 13 0 16) - (rI μ4 13 0 15)))
        else
          if 8 ≤ ((rI μ4 13 0 16) - (rI μ4 13 0 15)) then
            X12_advance_J166 (X12_advance_L109 n) (-1) μ4
          else
            bI (X12_look2 (rI μ4 13 0 16) μ4) fun x5 μ6 =>
              X12_advance_J166 (X12_advance_L109 n) ((((rL μ4 13 0 19) * 32) + (Int32.toInt64 x5)) - 96) μ6
theorem X12_advance_L109_ok : ∀ (n : Nat) (μ : sM), sOk 12 cX12_advance 2 2 false 109 [(0, vr 13 0)] [] μ (oV (X12_advance_L109 n μ)) := by
  intro n
  induction n with
  | zero =>
    intros
    exact sNo
  | succ n ih =>
    intro μ
    unfold X12_advance_L109
    refine sBk (lo' := [(0, vr 13 0)]) (st' := [vi (rI μ 13 0 16), vr 13 0]) (μ' := μ) (pc' := 114) [(.aload_n 0, 0, 0, 0, 0), (.aload_n 0, 0, 0, 0, 0), (.getfield 114, 12, 16, 0, 0)] (by decide +kernel) rfl rfl ?_
    refine sCvI oV rfl (ci := 12) (q := (13, 0)) (avs := [vi (rI μ 13 0 16)]) (rest := []) (tX12_look2 (rI μ 13 0 16) μ) (by decide) (by decide +kernel) lk_12_120 yv_X12_look2 rfl (by decide) rfl rfl rfl (Nat.le_of_ble_eq_true rfl) (fun x1 μ2 => ?_)
    refine sCsI oV rfl (avs := [vi x1]) (rest := []) (tX12_isLetter x1 μ2) (by decide) (by decide +kernel) lk_12_126 ys_X12_isLetter rfl rfl (Nat.le_of_ble_eq_true rfl) (fun x3 μ4 => ?_)
    refine sIf_eq oV (off := 62) (tgt := 182) (by decide +kernel) (by decide) (fun _ => ?_) (fun _ => ?_)
    · refine sBk (lo' := [(0, vr 13 0)]) (st' := []) (μ' := wI μ4 13 0 18 ((rI μ4 13 0 16) - (rI μ4 13 0 15))) (pc' := 195) [(.aload_n 0, 0, 0, 0, 0), (.aload_n 0, 0, 0, 0, 0), (.getfield 114, 12, 16, 0, 0), (.aload_n 0, 0, 0, 0, 0), (.getfield 117, 12, 15, 0, 0), (.isub, 0, 0, 0, 0), (.putfield 136, 12, 18, 0, 0)] (by decide +kernel) rfl rfl ?_
      refine sGt (off := 135) (tgt := 330) (by decide +kernel) (by decide) ?_
      exact sRv (by decide +kernel)
    · refine sBk (lo' := [(0, vr 13 0)]) (st' := [vi 8, vi ((rI μ4 13 0 16) - (rI μ4 13 0 15)), vr 13 0]) (μ' := μ4) (pc' := 135) [(.aload_n 0, 0, 0, 0, 0), (.aload_n 0, 0, 0, 0, 0), (.getfield 114, 12, 16, 0, 0), (.aload_n 0, 0, 0, 0, 0), (.getfield 117, 12, 15, 0, 0), (.isub, 0, 0, 0, 0), (.bipush 8, 0, 0, 8, 0)] (by decide +kernel) rfl rfl ?_
      refine sIc_ge oV (off := 28) (tgt := 163) (by decide +kernel) (by decide) (fun _ => ?_) (fun _ => ?_)
      · refine sBk (lo' := [(0, vr 13 0)]) (st' := [vl (-1), vr 13 0]) (μ' := μ4) (pc' := 166) [(.ldc2_w 103, 0, 0, 0, (-1))] (by decide +kernel) rfl rfl ?_
        exact X12_advance_J166_ok ih (-1) μ4
      · refine sBk (lo' := [(0, vr 13 0)]) (st' := [vi (rI μ4 13 0 16), vr 13 0, vl ((rL μ4 13 0 19) * 32), vr 13 0]) (μ' := μ4) (pc' := 151) [(.aload_n 0, 0, 0, 0, 0), (.getfield 129, 12, 19, 0, 0), (.ldc2_w 132, 0, 0, 0, 32), (.lmul, 0, 0, 0, 0), (.aload_n 0, 0, 0, 0, 0), (.aload_n 0, 0, 0, 0, 0), (.getfield 114, 12, 16, 0, 0)] (by decide +kernel) rfl rfl ?_
        refine sCvI oV rfl (ci := 12) (q := (13, 0)) (avs := [vi (rI μ4 13 0 16)]) (rest := [vl ((rL μ4 13 0 19) * 32), vr 13 0]) (tX12_look2 (rI μ4 13 0 16) μ4) (by decide) (by decide +kernel) lk_12_120 yv_X12_look2 rfl (by decide) rfl rfl rfl (Nat.le_of_ble_eq_true rfl) (fun x5 μ6 => ?_)
        refine sBk (lo' := [(0, vr 13 0)]) (st' := [vl ((((rL μ4 13 0 19) * 32) + (Int32.toInt64 x5)) - 96), vr 13 0]) (μ' := μ6) (pc' := 160) [(.i2l, 0, 0, 0, 0), (.ladd, 0, 0, 0, 0), (.ldc2_w 134, 0, 0, 0, 96), (.lsub, 0, 0, 0, 0)] (by decide +kernel) rfl rfl ?_
        refine sGt (off := 6) (tgt := 166) (by decide +kernel) (by decide) ?_
        exact X12_advance_J166_ok ih ((((rL μ4 13 0 19) * 32) + (Int32.toInt64 x5)) - 96) μ6
def X12_advance_J260 (k210 : sM → Option sM) (μ : sM) : Option sM :=
  k210 (wI μ 13 0 16 ((rI μ 13 0 16) + 1))
theorem X12_advance_J260_ok {k210 : sM → Option sM} (hk210 : ∀ (μ : sM), sOk 12 cX12_advance 2 2 false 210 [(0, vr 13 0)] [] μ (oV (k210 μ))) (μ : sM) : sOk 12 cX12_advance 2 2 false 260 [(0, vr 13 0)] [] μ (oV (X12_advance_J260 k210 μ)) := by
  unfold X12_advance_J260
  refine sBk (lo' := [(0, vr 13 0)]) (st' := []) (μ' := wI μ 13 0 16 ((rI μ 13 0 16) + 1)) (pc' := 270) [(.aload_n 0, 0, 0, 0, 0), (.dup, 0, 0, 0, 0), (.getfield 114, 12, 16, 0, 0), (.iconst 1, 0, 0, 1, 0), (.iadd, 0, 0, 0, 0), (.putfield 114, 12, 16, 0, 0)] (by decide +kernel) rfl rfl ?_
  refine sGt (off := (-60)) (tgt := 210) (by decide +kernel) (by decide) ?_
  exact hk210 (wI μ 13 0 16 ((rI μ 13 0 16) + 1))
def X12_advance_L210 : Nat → sM → Option sM
  | 0, _ => none
  | n + 1, μ =>
    bI (X12_look2 (rI μ 13 0 16) μ) fun x1 μ2 =>
      bI (X12_isDigit x1 μ2) fun x3 μ4 =>
        if x3 = 0 then
          if ((rI μ4 13 0 16) - (rI μ4 13 0 15)) ≤ 4 then
            some (wI μ4 13 0 14 2)
          else
            some (wI μ4 13 0 14 4)
        else
          if 4 ≤ ((rI μ4 13 0 16) - (rI μ4 13 0 15)) then
            X12_advance_J260 (X12_advance_L210 n) μ4
          else
            bI (X12_look2 (rI μ4 13 0 16) μ4) fun x5 μ6 =>
              X12_advance_J260 (X12_advance_L210 n) (wI μ6 13 0 17 (((10 * (rI μ4 13 0 17)) + x5) - 48))
theorem X12_advance_L210_ok : ∀ (n : Nat) (μ : sM), sOk 12 cX12_advance 2 2 false 210 [(0, vr 13 0)] [] μ (oV (X12_advance_L210 n μ)) := by
  intro n
  induction n with
  | zero =>
    intros
    exact sNo
  | succ n ih =>
    intro μ
    unfold X12_advance_L210
    refine sBk (lo' := [(0, vr 13 0)]) (st' := [vi (rI μ 13 0 16), vr 13 0]) (μ' := μ) (pc' := 215) [(.aload_n 0, 0, 0, 0, 0), (.aload_n 0, 0, 0, 0, 0), (.getfield 114, 12, 16, 0, 0)] (by decide +kernel) rfl rfl ?_
    refine sCvI oV rfl (ci := 12) (q := (13, 0)) (avs := [vi (rI μ 13 0 16)]) (rest := []) (tX12_look2 (rI μ 13 0 16) μ) (by decide) (by decide +kernel) lk_12_120 yv_X12_look2 rfl (by decide) rfl rfl rfl (Nat.le_of_ble_eq_true rfl) (fun x1 μ2 => ?_)
    refine sCsI oV rfl (avs := [vi x1]) (rest := []) (tX12_isDigit x1 μ2) (by decide) (by decide +kernel) lk_12_139 ys_X12_isDigit rfl rfl (Nat.le_of_ble_eq_true rfl) (fun x3 μ4 => ?_)
    refine sIf_eq oV (off := 52) (tgt := 273) (by decide +kernel) (by decide) (fun _ => ?_) (fun _ => ?_)
    · refine sBk (lo' := [(0, vr 13 0)]) (st' := [vi 4, vi ((rI μ4 13 0 16) - (rI μ4 13 0 15)), vr 13 0]) (μ' := μ4) (pc' := 284) [(.aload_n 0, 0, 0, 0, 0), (.aload_n 0, 0, 0, 0, 0), (.getfield 114, 12, 16, 0, 0), (.aload_n 0, 0, 0, 0, 0), (.getfield 117, 12, 15, 0, 0), (.isub, 0, 0, 0, 0), (.iconst 4, 0, 0, 4, 0)] (by decide +kernel) rfl rfl ?_
      refine sIc_le oV (off := 7) (tgt := 291) (by decide +kernel) (by decide) (fun _ => ?_) (fun _ => ?_)
      · refine sBk (lo' := [(0, vr 13 0)]) (st' := []) (μ' := wI μ4 13 0 14 2) (pc' := 295) [(.iconst 2, 0, 0, 2, 0), (.putfield 123, 12, 14, 0, 0)] (by decide +kernel) rfl rfl ?_
        refine sGt (off := 35) (tgt := 330) (by decide +kernel) (by decide) ?_
        exact sRv (by decide +kernel)
      · refine sBk (lo' := [(0, vr 13 0)]) (st' := [vi 4, vr 13 0]) (μ' := μ4) (pc' := 288) [(.iconst 4, 0, 0, 4, 0)] (by decide +kernel) rfl rfl ?_
        refine sGt (off := 4) (tgt := 292) (by decide +kernel) (by decide) ?_
        refine sBk (lo' := [(0, vr 13 0)]) (st' := []) (μ' := wI μ4 13 0 14 4) (pc' := 295) [(.putfield 123, 12, 14, 0, 0)] (by decide +kernel) rfl rfl ?_
        refine sGt (off := 35) (tgt := 330) (by decide +kernel) (by decide) ?_
        exact sRv (by decide +kernel)
    · refine sBk (lo' := [(0, vr 13 0)]) (st' := [vi 4, vi ((rI μ4 13 0 16) - (rI μ4 13 0 15))]) (μ' := μ4) (pc' := 234) [(.aload_n 0, 0, 0, 0, 0), (.getfield 114, 12, 16, 0, 0), (.aload_n 0, 0, 0, 0, 0), (.getfield 117, 12, 15, 0, 0), (.isub, 0, 0, 0, 0), (.iconst 4, 0, 0, 4, 0)] (by decide +kernel) rfl rfl ?_
      refine sIc_ge oV (off := 26) (tgt := 260) (by decide +kernel) (by decide) (fun _ => ?_) (fun _ => ?_)
      · exact X12_advance_J260_ok ih μ4
      · refine sBk (lo' := [(0, vr 13 0)]) (st' := [vi (rI μ4 13 0 16), vr 13 0, vi (10 * (rI μ4 13 0 17)), vr 13 0]) (μ' := μ4) (pc' := 250) [(.aload_n 0, 0, 0, 0, 0), (.bipush 10, 0, 0, 10, 0), (.aload_n 0, 0, 0, 0, 0), (.getfield 142, 12, 17, 0, 0), (.imul, 0, 0, 0, 0), (.aload_n 0, 0, 0, 0, 0), (.aload_n 0, 0, 0, 0, 0), (.getfield 114, 12, 16, 0, 0)] (by decide +kernel) rfl rfl ?_
        refine sCvI oV rfl (ci := 12) (q := (13, 0)) (avs := [vi (rI μ4 13 0 16)]) (rest := [vi (10 * (rI μ4 13 0 17)), vr 13 0]) (tX12_look2 (rI μ4 13 0 16) μ4) (by decide) (by decide +kernel) lk_12_120 yv_X12_look2 rfl (by decide) rfl rfl rfl (Nat.le_of_ble_eq_true rfl) (fun x5 μ6 => ?_)
        refine sBk (lo' := [(0, vr 13 0)]) (st' := []) (μ' := wI μ6 13 0 17 (((10 * (rI μ4 13 0 17)) + x5) - 48)) (pc' := 260) [(.iadd, 0, 0, 0, 0), (.bipush 48, 0, 0, 48, 0), (.isub, 0, 0, 0, 0), (.putfield 142, 12, 17, 0, 0)] (by decide +kernel) rfl rfl ?_
        exact X12_advance_J260_ok ih (wI μ6 13 0 17 (((10 * (rI μ4 13 0 17)) + x5) - 48))
def X12_advance_J58 (μ : sM) : Option sM :=
  if (rI μ 13 0 15) < (rI μ 13 0 9) then
    bI (X12_look2 (rI μ 13 0 15) (wI μ 13 0 16 (rI μ 13 0 15))) fun x1 μ2 =>
      bI (X12_isLetter x1 μ2) fun x3 μ4 =>
        if x3 = 0 then
          bI (X12_isDigit x1 μ4) fun x5 μ6 =>
            if x5 = 0 then
              bI (X12_isSignByte x1 (wI (wI μ6 13 0 16 ((rI μ6 13 0 15) + 1)) 13 0 17 x1)) fun x7 μ8 =>
                if x7 = 0 then
                  some (wI μ8 13 0 14 4)
                else
                  some (wI μ8 13 0 14 3)
            else
              X12_advance_L210 fuN (wI μ6 13 0 17 0)
        else
          X12_advance_L109 fuN (wL (wI μ4 13 0 14 1) 13 0 19 0)
  else
    some (wI (wI μ 13 0 16 (rI μ 13 0 15)) 13 0 14 0)
theorem X12_advance_J58_ok (μ : sM) : sOk 12 cX12_advance 2 2 false 58 [(0, vr 13 0)] [] μ (oV (X12_advance_J58 μ)) := by
  unfold X12_advance_J58
  refine sBk (lo' := [(0, vr 13 0)]) (st' := [vi (rI μ 13 0 9), vi (rI μ 13 0 15)]) (μ' := wI μ 13 0 16 (rI μ 13 0 15)) (pc' := 74) [(.aload_n 0, 0, 0, 0, 0), (.aload_n 0, 0, 0, 0, 0), (.getfield 117, 12, 15, 0, 0), (.putfield 114, 12, 16, 0, 0), (.aload_n 0, 0, 0, 0, 0), (.getfield 117, 12, 15, 0, 0), (.aload_n 0, 0, 0, 0, 0), (.getfield 111, 12, 9, 0, 0)] (by decide +kernel) rfl rfl ?_
  refine sIc_lt oV (off := 9) (tgt := 83) (by decide +kernel) (by decide) (fun _ => ?_) (fun _ => ?_)
  · refine sBk (lo' := [(0, vr 13 0)]) (st' := [vi (rI μ 13 0 15), vr 13 0]) (μ' := wI μ 13 0 16 (rI μ 13 0 15)) (pc' := 88) [(.aload_n 0, 0, 0, 0, 0), (.aload_n 0, 0, 0, 0, 0), (.getfield 117, 12, 15, 0, 0)] (by decide +kernel) rfl rfl ?_
    refine sCvI oV rfl (ci := 12) (q := (13, 0)) (avs := [vi (rI μ 13 0 15)]) (rest := []) (tX12_look2 (rI μ 13 0 15) (wI μ 13 0 16 (rI μ 13 0 15))) (by decide) (by decide +kernel) lk_12_120 yv_X12_look2 rfl (by decide) rfl rfl rfl (Nat.le_of_ble_eq_true rfl) (fun x1 μ2 => ?_)
    refine sBk (lo' := [(1, vi x1), (0, vr 13 0)]) (st' := [vi x1]) (μ' := μ2) (pc' := 93) [(.istore_n 1, 0, 0, 0, 0), (.iload_n 1, 0, 0, 0, 0)] (by decide +kernel) rfl rfl ?_
    refine sCsI oV rfl (avs := [vi x1]) (rest := []) (tX12_isLetter x1 μ2) (by decide) (by decide +kernel) lk_12_126 ys_X12_isLetter rfl rfl (Nat.le_of_ble_eq_true rfl) (fun x3 μ4 => ?_)
    refine sIf_eq oV (off := 102) (tgt := 198) (by decide +kernel) (by decide) (fun _ => ?_) (fun _ => ?_)
    · refine sBk (lo' := [(1, vi x1), (0, vr 13 0)]) (st' := [vi x1]) (μ' := μ4) (pc' := 199) [(.iload_n 1, 0, 0, 0, 0)] (by decide +kernel) rfl rfl ?_
      refine sCsI oV rfl (avs := [vi x1]) (rest := []) (tX12_isDigit x1 μ4) (by decide) (by decide +kernel) lk_12_139 ys_X12_isDigit rfl rfl (Nat.le_of_ble_eq_true rfl) (fun x5 μ6 => ?_)
      refine sIf_eq oV (off := 96) (tgt := 298) (by decide +kernel) (by decide) (fun _ => ?_) (fun _ => ?_)
      · refine sBk (lo' := [(1, vi x1), (0, vr 13 0)]) (st' := [vi x1, vr 13 0, vr 13 0]) (μ' := wI (wI μ6 13 0 16 ((rI μ6 13 0 15) + 1)) 13 0 17 x1) (pc' := 316) [(.aload_n 0, 0, 0, 0, 0), (.aload_n 0, 0, 0, 0, 0), (.getfield 117, 12, 15, 0, 0), (.iconst 1, 0, 0, 1, 0), (.iadd, 0, 0, 0, 0), (.putfield 114, 12, 16, 0, 0), (.aload_n 0, 0, 0, 0, 0), (.iload_n 1, 0, 0, 0, 0), (.putfield 142, 12, 17, 0, 0), (.aload_n 0, 0, 0, 0, 0), (.aload_n 0, 0, 0, 0, 0), (.iload_n 1, 0, 0, 0, 0)] (by decide +kernel) rfl rfl ?_
        refine sCvI oV rfl (ci := 12) (q := (13, 0)) (avs := [vi x1]) (rest := [vr 13 0]) (tX12_isSignByte x1 (wI (wI μ6 13 0 16 ((rI μ6 13 0 15) + 1)) 13 0 17 x1)) (by decide) (by decide +kernel) lk_12_145 yv_X12_isSignByte rfl (by decide) rfl rfl rfl (Nat.le_of_ble_eq_true rfl) (fun x7 μ8 => ?_)
        refine sIf_eq oV (off := 7) (tgt := 326) (by decide +kernel) (by decide) (fun _ => ?_) (fun _ => ?_)
        · refine sBk (lo' := [(1, vi x1), (0, vr 13 0)]) (st' := []) (μ' := wI μ8 13 0 14 4) (pc' := 330) [(.iconst 4, 0, 0, 4, 0), (.putfield 123, 12, 14, 0, 0)] (by decide +kernel) rfl rfl ?_
          exact sRv (by decide +kernel)
        · refine sBk (lo' := [(1, vi x1), (0, vr 13 0)]) (st' := [vi 3, vr 13 0]) (μ' := μ8) (pc' := 323) [(.iconst 3, 0, 0, 3, 0)] (by decide +kernel) rfl rfl ?_
          refine sGt (off := 4) (tgt := 327) (by decide +kernel) (by decide) ?_
          refine sBk (lo' := [(1, vi x1), (0, vr 13 0)]) (st' := []) (μ' := wI μ8 13 0 14 3) (pc' := 330) [(.putfield 123, 12, 14, 0, 0)] (by decide +kernel) rfl rfl ?_
          exact sRv (by decide +kernel)
      · refine sBk (lo' := [(1, vi x1), (0, vr 13 0)]) (st' := []) (μ' := wI μ6 13 0 17 0) (pc' := 210) [(.aload_n 0, 0, 0, 0, 0), (.iconst 0, 0, 0, 0, 0), (.putfield 142, 12, 17, 0, 0)] (by decide +kernel) rfl rfl ?_
        refine sWk (lo' := [(0, vr 13 0)]) [1] rfl ?_
        exact X12_advance_L210_ok fuN (wI μ6 13 0 17 0)
    · refine sBk (lo' := [(1, vi x1), (0, vr 13 0)]) (st' := []) (μ' := wL (wI μ4 13 0 14 1) 13 0 19 0) (pc' := 109) [(.aload_n 0, 0, 0, 0, 0), (.iconst 1, 0, 0, 1, 0), (.putfield 123, 12, 14, 0, 0), (.aload_n 0, 0, 0, 0, 0), (.lconst 0, 0, 0, 0, 0), (.putfield 129, 12, 19, 0, 0)] (by decide +kernel) rfl rfl ?_
      refine sWk (lo' := [(0, vr 13 0)]) [1] rfl ?_
      exact X12_advance_L109_ok fuN (wL (wI μ4 13 0 14 1) 13 0 19 0)
  · refine sBk (lo' := [(0, vr 13 0)]) (st' := []) (μ' := wI (wI μ 13 0 16 (rI μ 13 0 15)) 13 0 14 0) (pc' := 82) [(.aload_n 0, 0, 0, 0, 0), (.iconst 0, 0, 0, 0, 0), (.putfield 123, 12, 14, 0, 0)] (by decide +kernel) rfl rfl ?_
    exact sRv (by decide +kernel)
def X12_advance_L8 : Nat → sM → Option sM
  | 0, _ => none
  | n + 1, μ =>
    if (rI μ 13 0 9) ≤ (rI μ 13 0 15) then
      X12_advance_J58 μ
    else
      bI (X12_look2 (rI μ 13 0 15) μ) fun x1 μ2 =>
        if x1 = 10 then
          X12_advance_J45 (X12_advance_L8 n) μ2
        else
          bI (X12_look2 (rI μ2 13 0 15) μ2) fun x3 μ4 =>
            if x3 = 32 then
              X12_advance_J45 (X12_advance_L8 n) μ4
            else
              X12_advance_J58 μ4
theorem X12_advance_L8_ok : ∀ (n : Nat) (μ : sM), sOk 12 cX12_advance 2 2 false 8 [(0, vr 13 0)] [] μ (oV (X12_advance_L8 n μ)) := by
  intro n
  induction n with
  | zero =>
    intros
    exact sNo
  | succ n ih =>
    intro μ
    unfold X12_advance_L8
    refine sBk (lo' := [(0, vr 13 0)]) (st' := [vi (rI μ 13 0 9), vi (rI μ 13 0 15)]) (μ' := μ) (pc' := 16) [(.aload_n 0, 0, 0, 0, 0), (.getfield 117, 12, 15, 0, 0), (.aload_n 0, 0, 0, 0, 0), (.getfield 111, 12, 9, 0, 0)] (by decide +kernel) rfl rfl ?_
    refine sIc_ge oV (off := 42) (tgt := 58) (by decide +kernel) (by decide) (fun _ => ?_) (fun _ => ?_)
    · exact X12_advance_J58_ok μ
    · refine sBk (lo' := [(0, vr 13 0)]) (st' := [vi (rI μ 13 0 15), vr 13 0]) (μ' := μ) (pc' := 24) [(.aload_n 0, 0, 0, 0, 0), (.aload_n 0, 0, 0, 0, 0), (.getfield 117, 12, 15, 0, 0)] (by decide +kernel) rfl rfl ?_
      refine sCvI oV rfl (ci := 12) (q := (13, 0)) (avs := [vi (rI μ 13 0 15)]) (rest := []) (tX12_look2 (rI μ 13 0 15) μ) (by decide) (by decide +kernel) lk_12_120 yv_X12_look2 rfl (by decide) rfl rfl rfl (Nat.le_of_ble_eq_true rfl) (fun x1 μ2 => ?_)
      refine sBk (lo' := [(0, vr 13 0)]) (st' := [vi 10, vi x1]) (μ' := μ2) (pc' := 29) [(.bipush 10, 0, 0, 10, 0)] (by decide +kernel) rfl rfl ?_
      refine sIc_eq oV (off := 16) (tgt := 45) (by decide +kernel) (by decide) (fun _ => ?_) (fun _ => ?_)
      · exact X12_advance_J45_ok ih μ2
      · refine sBk (lo' := [(0, vr 13 0)]) (st' := [vi (rI μ2 13 0 15), vr 13 0]) (μ' := μ2) (pc' := 37) [(.aload_n 0, 0, 0, 0, 0), (.aload_n 0, 0, 0, 0, 0), (.getfield 117, 12, 15, 0, 0)] (by decide +kernel) rfl rfl ?_
        refine sCvI oV rfl (ci := 12) (q := (13, 0)) (avs := [vi (rI μ2 13 0 15)]) (rest := []) (tX12_look2 (rI μ2 13 0 15) μ2) (by decide) (by decide +kernel) lk_12_120 yv_X12_look2 rfl (by decide) rfl rfl rfl (Nat.le_of_ble_eq_true rfl) (fun x3 μ4 => ?_)
        refine sBk (lo' := [(0, vr 13 0)]) (st' := [vi 32, vi x3]) (μ' := μ4) (pc' := 42) [(.bipush 32, 0, 0, 32, 0)] (by decide +kernel) rfl rfl ?_
        refine sIc_ne oV (off := 16) (tgt := 58) (by decide +kernel) (by decide) (fun _ => ?_) (fun _ => ?_)
        · exact X12_advance_J58_ok μ4
        · exact X12_advance_J45_ok ih μ4
def X12_advance (μ : sM) : Option sM :=
  X12_advance_L8 fuN (wI μ 13 0 15 (rI μ 13 0 16))
theorem tX12_advance (μ : sM) : sMt yX12_advance cX12_advance 2 none 2 [vr 13 0] μ (oV (X12_advance μ)) := by
  refine sMt_of (own := 12) (bl := false) (by decide +kernel) rfl (Nat.le_of_ble_eq_true rfl) (fun r ρ h => ?_) ?_
  · obtain ⟨q, -, hq⟩ := Option.map_eq_some_iff.mp h
    cases hq
    exact rfl
  · unfold X12_advance
    show sOk 12 cX12_advance 2 2 false 0 [(0, vr 13 0)] [] μ _
    refine sBk (lo' := [(0, vr 13 0)]) (st' := []) (μ' := wI μ 13 0 15 (rI μ 13 0 16)) (pc' := 8) [(.aload_n 0, 0, 0, 0, 0), (.aload_n 0, 0, 0, 0, 0), (.getfield 114, 12, 16, 0, 0), (.putfield 117, 12, 15, 0, 0)] (by decide +kernel) rfl rfl ?_
    exact X12_advance_L8_ok fuN (wI μ 13 0 15 (rI μ 13 0 16))
