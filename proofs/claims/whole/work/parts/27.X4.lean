theorem lk_4_112 : Cond.methodLink (kRn 4) 112 yX10_pay ∈ sT := sT_in (n := 1142) (by decide +kernel) rfl
theorem lk_4_116 : Cond.methodLink (kRn 4) 116 yX4_passHour ∈ sT := sT_in (n := 1092) (by decide +kernel) rfl
theorem lk_4_119 : Cond.methodLink (kRn 4) 119 yX3_letPass ∈ sT := sT_in (n := 1096) (by decide +kernel) rfl
theorem lk_4_122 : Cond.methodLink (kRn 4) 122 yX4_runDown ∈ sT := sT_in (n := 1101) (by decide +kernel) rfl
theorem lk_4_125 : Cond.methodLink (kRn 4) 125 yX4_runUp ∈ sT := sT_in (n := 1105) (by decide +kernel) rfl
theorem lk_4_128 : Cond.methodLink (kRn 4) 128 yX3_addEach ∈ sT := sT_in (n := 1109) (by decide +kernel) rfl
theorem lk_4_131 : Cond.methodLink (kRn 4) 131 yX3_spill ∈ sT := sT_in (n := 1113) (by decide +kernel) rfl
theorem lk_4_137 : Cond.methodLink (kRn 4) 137 yX2_grind ∈ sT := sT_in (n := 1120) (by decide +kernel) rfl
theorem lk_4_141 : Cond.methodLink (kRn 4) 141 yX4_slacken ∈ sT := sT_in (n := 1124) (by decide +kernel) rfl
theorem lk_4_70 : Cond.methodLink (kRn 4) 70 yX3_copyFrom ∈ sT := sT_in (n := 930) (by decide +kernel) rfl
theorem lk_4_74 : Cond.methodLink (kRn 4) 74 yX2_copyFrom ∈ sT := sT_in (n := 935) (by decide +kernel) rfl
theorem lk_4_77 : Cond.methodLink (kRn 4) 77 yX10_copyFrom ∈ sT := sT_in (n := 940) (by decide +kernel) rfl
theorem lk_4_83 : Cond.methodLink (kRn 4) 83 yX4_placeOf ∈ sT := sT_in (n := 897) (by decide +kernel) rfl
theorem lk_4_89 : Cond.methodLink (kRn 4) 89 yX3_allHeld ∈ sT := sT_in (n := 1027) (by decide +kernel) rfl
theorem lk_4_93 : Cond.methodLink (kRn 4) 93 yX10_allHad ∈ sT := sT_in (n := 1031) (by decide +kernel) rfl
theorem lk_4_96 : Cond.methodLink (kRn 4) 96 yX2_allGround ∈ sT := sT_in (n := 1035) (by decide +kernel) rfl
theorem ys_X4_placeOf : yS yX4_placeOf cX4_placeOf 5 (some .int) 3 := ⟨⟨sT_in (n := 899) (by decide +kernel) rfl, sT_in (n := 138) (by decide +kernel) rfl, by decide +kernel, by decide⟩, sT_in (n := 898) (by decide +kernel) rfl⟩
theorem yv_X10_allHad : yV yX10_allHad cX10_allHad 3 (some .int) 0 := ⟨⟨sT_in (n := 1034) (by decide +kernel) rfl, sT_in (n := 141) (by decide +kernel) rfl, by decide +kernel, by decide⟩, sT_in (n := 1032) (by decide +kernel) rfl, sT_in (n := 1033) (by decide +kernel) rfl⟩
theorem yv_X10_copyFrom : yV yX10_copyFrom cX10_copyFrom 2 none 1 := ⟨⟨sT_in (n := 943) (by decide +kernel) rfl, sT_in (n := 141) (by decide +kernel) rfl, by decide +kernel, by decide⟩, sT_in (n := 941) (by decide +kernel) rfl, sT_in (n := 942) (by decide +kernel) rfl⟩
theorem yv_X10_pay : yV yX10_pay cX10_pay 2 none 1 := ⟨⟨sT_in (n := 1145) (by decide +kernel) rfl, sT_in (n := 141) (by decide +kernel) rfl, by decide +kernel, by decide⟩, sT_in (n := 1143) (by decide +kernel) rfl, sT_in (n := 1144) (by decide +kernel) rfl⟩
theorem yv_X2_allGround : yV yX2_allGround cX2_allGround 3 (some .int) 0 := ⟨⟨sT_in (n := 1038) (by decide +kernel) rfl, sT_in (n := 140) (by decide +kernel) rfl, by decide +kernel, by decide⟩, sT_in (n := 1036) (by decide +kernel) rfl, sT_in (n := 1037) (by decide +kernel) rfl⟩
theorem yv_X2_copyFrom : yV yX2_copyFrom cX2_copyFrom 2 none 1 := ⟨⟨sT_in (n := 938) (by decide +kernel) rfl, sT_in (n := 140) (by decide +kernel) rfl, by decide +kernel, by decide⟩, sT_in (n := 936) (by decide +kernel) rfl, sT_in (n := 937) (by decide +kernel) rfl⟩
theorem yv_X2_grind : yV yX2_grind cX2_grind 4 (some .int) 1 := ⟨⟨sT_in (n := 1123) (by decide +kernel) rfl, sT_in (n := 140) (by decide +kernel) rfl, by decide +kernel, by decide⟩, sT_in (n := 1121) (by decide +kernel) rfl, sT_in (n := 1122) (by decide +kernel) rfl⟩
theorem yv_X3_addEach : yV yX3_addEach cX3_addEach 3 none 1 := ⟨⟨sT_in (n := 1112) (by decide +kernel) rfl, sT_in (n := 139) (by decide +kernel) rfl, by decide +kernel, by decide⟩, sT_in (n := 1110) (by decide +kernel) rfl, sT_in (n := 1111) (by decide +kernel) rfl⟩
theorem yv_X3_allHeld : yV yX3_allHeld cX3_allHeld 3 (some .int) 0 := ⟨⟨sT_in (n := 1030) (by decide +kernel) rfl, sT_in (n := 139) (by decide +kernel) rfl, by decide +kernel, by decide⟩, sT_in (n := 1028) (by decide +kernel) rfl, sT_in (n := 1029) (by decide +kernel) rfl⟩
theorem yv_X3_copyFrom : yV yX3_copyFrom cX3_copyFrom 2 none 1 := ⟨⟨sT_in (n := 933) (by decide +kernel) rfl, sT_in (n := 139) (by decide +kernel) rfl, by decide +kernel, by decide⟩, sT_in (n := 931) (by decide +kernel) rfl, sT_in (n := 932) (by decide +kernel) rfl⟩
theorem yv_X3_letPass : yV yX3_letPass cX3_letPass 2 none 0 := ⟨⟨sT_in (n := 1099) (by decide +kernel) rfl, sT_in (n := 139) (by decide +kernel) rfl, by decide +kernel, by decide⟩, sT_in (n := 1097) (by decide +kernel) rfl, sT_in (n := 1098) (by decide +kernel) rfl⟩
theorem yv_X3_spill : yV yX3_spill cX3_spill 3 (some .int) 0 := ⟨⟨sT_in (n := 1116) (by decide +kernel) rfl, sT_in (n := 139) (by decide +kernel) rfl, by decide +kernel, by decide⟩, sT_in (n := 1114) (by decide +kernel) rfl, sT_in (n := 1115) (by decide +kernel) rfl⟩
theorem yv_X4_passHour : yV yX4_passHour cX4_passHour 2 (some .int) 0 := ⟨⟨sT_in (n := 1095) (by decide +kernel) rfl, sT_in (n := 138) (by decide +kernel) rfl, by decide +kernel, by decide⟩, sT_in (n := 1093) (by decide +kernel) rfl, sT_in (n := 1094) (by decide +kernel) rfl⟩
theorem yv_X4_runDown : yV yX4_runDown cX4_runDown 3 none 0 := ⟨⟨sT_in (n := 1104) (by decide +kernel) rfl, sT_in (n := 138) (by decide +kernel) rfl, by decide +kernel, by decide⟩, sT_in (n := 1103) (by decide +kernel) rfl, sT_in (n := 24) (by decide +kernel) rfl⟩
theorem yv_X4_runUp : yV yX4_runUp cX4_runUp 3 none 0 := ⟨⟨sT_in (n := 1108) (by decide +kernel) rfl, sT_in (n := 138) (by decide +kernel) rfl, by decide +kernel, by decide⟩, sT_in (n := 1107) (by decide +kernel) rfl, sT_in (n := 25) (by decide +kernel) rfl⟩
theorem yv_X4_slacken : yV yX4_slacken cX4_slacken 2 none 0 := ⟨⟨sT_in (n := 1127) (by decide +kernel) rfl, sT_in (n := 138) (by decide +kernel) rfl, by decide +kernel, by decide⟩, sT_in (n := 1126) (by decide +kernel) rfl, sT_in (n := 26) (by decide +kernel) rfl⟩
/-! ClockRiver$River.clear -/
def X4_clear_L37 : Nat → Nat → Int32 → sM → Option sM
  | 0, _, _, _ => none
  | n + 1, v0, v1, μ =>
    if 6 ≤ v1 then
      some (wI (wI (wI μ 4 v0 0 0) 3 v0 0 0) 11 v0 0 0)
    else
      if inb v1 6 = true then
        X4_clear_L37 n v0 (v1 + 1) (wL μ 34 v0 (ix v1) 0)
      else none
theorem X4_clear_L37_ok : ∀ (n : Nat) (v0 : Nat) (v1 : Int32) (μ : sM), sOk 4 cX4_clear 2 1 false 37 [(0, vr 5 v0), (1, vi v1)] [] μ (oV (X4_clear_L37 n v0 v1 μ)) := by
  intro n
  induction n with
  | zero =>
    intros
    exact sNo
  | succ n ih =>
    intro v0 v1 μ
    unfold X4_clear_L37
    refine sBk (lo' := [(0, vr 5 v0), (1, vi v1)]) (st' := [vi 6, vi v1]) (μ' := μ) (pc' := 40) [(.iload_n 1, 0, 0, 0, 0), (.bipush 6, 0, 0, 6, 0)] (by decide +kernel) rfl rfl ?_
    refine sIc_ge oV (off := 16) (tgt := 56) (by decide +kernel) (by decide) (fun _ => ?_) (fun _ => ?_)
    · refine sBk (lo' := [(0, vr 5 v0), (1, vi v1)]) (st' := []) (μ' := wI (wI (wI μ 4 v0 0 0) 3 v0 0 0) 11 v0 0 0) (pc' := 80) [(.aload_n 0, 0, 0, 0, 0), (.getfield 28, 4, 8, 0, 0), (.iconst 0, 0, 0, 0, 0), (.putfield 59, 3, 0, 0, 0), (.aload_n 0, 0, 0, 0, 0), (.getfield 35, 4, 9, 0, 0), (.iconst 0, 0, 0, 0, 0), (.putfield 62, 2, 0, 0, 0), (.aload_n 0, 0, 0, 0, 0), (.getfield 42, 4, 10, 0, 0), (.iconst 0, 0, 0, 0, 0), (.putfield 63, 10, 0, 0, 0)] (by decide +kernel) rfl rfl ?_
      exact sRv (by decide +kernel)
    · refine sBk (lo' := [(0, vr 5 v0), (1, vi v1)]) (st' := [vl 0, vi v1, vr 34 v0]) (μ' := μ) (pc' := 49) [(.aload_n 0, 0, 0, 0, 0), (.getfield 21, 4, 7, 0, 0), (.iload_n 1, 0, 0, 0, 0), (.lconst 0, 0, 0, 0, 0)] (by decide +kernel) rfl rfl ?_
      refine sS_las oV rfl (n := 6) (j := (ix v1)) (by decide +kernel) rfl rfl rfl (fun _ => ?_)
      refine sBk (lo' := [(1, vi (v1 + 1)), (0, vr 5 v0)]) (st' := []) (μ' := wL μ 34 v0 (ix v1) 0) (pc' := 53) [(.iinc 1 1, 0, 0, 1, 0)] (by decide +kernel) rfl rfl ?_
      refine sGt (off := (-16)) (tgt := 37) (by decide +kernel) (by decide) ?_
      refine sWk (lo' := [(0, vr 5 v0), (1, vi (v1 + 1))]) [1, 0] rfl ?_
      exact ih v0 (v1 + 1) (wL μ 34 v0 (ix v1) 0)
def X4_clear (a0 : Nat) (μ : sM) : Option sM :=
  X4_clear_L37 fuN a0 0 (wI (wI (wI (wI (wI (wI (wI μ 5 a0 0 0) 5 a0 1 1) 5 a0 2 5) 5 a0 3 4) 5 a0 4 0) 5 a0 5 0) 5 a0 6 0)
theorem tX4_clear (a0 : Nat) (μ : sM) : sMt yX4_clear cX4_clear 2 none 1 [vr 5 a0] μ (oV (X4_clear a0 μ)) := by
  refine sMt_of (own := 4) (bl := false) (by decide +kernel) rfl (Nat.le_of_ble_eq_true rfl) (fun r ρ h => ?_) ?_
  · obtain ⟨q, -, hq⟩ := Option.map_eq_some_iff.mp h
    cases hq
    exact rfl
  · unfold X4_clear
    show sOk 4 cX4_clear 2 1 false 0 [(0, vr 5 a0)] [] μ _
    refine sBk (lo' := [(1, vi 0), (0, vr 5 a0)]) (st' := []) (μ' := wI (wI (wI (wI (wI (wI (wI μ 5 a0 0 0) 5 a0 1 1) 5 a0 2 5) 5 a0 3 4) 5 a0 4 0) 5 a0 5 0) 5 a0 6 0) (pc' := 37) [(.aload_n 0, 0, 0, 0, 0), (.iconst 0, 0, 0, 0, 0), (.putfield 46, 4, 0, 0, 0), (.aload_n 0, 0, 0, 0, 0), (.iconst 1, 0, 0, 1, 0), (.putfield 9, 4, 1, 0, 0), (.aload_n 0, 0, 0, 0, 0), (.iconst 5, 0, 0, 5, 0), (.putfield 15, 4, 2, 0, 0), (.aload_n 0, 0, 0, 0, 0), (.iconst 4, 0, 0, 4, 0), (.putfield 18, 4, 3, 0, 0), (.aload_n 0, 0, 0, 0, 0), (.iconst 0, 0, 0, 0, 0), (.putfield 49, 4, 4, 0, 0), (.aload_n 0, 0, 0, 0, 0), (.iconst 0, 0, 0, 0, 0), (.putfield 52, 4, 5, 0, 0), (.aload_n 0, 0, 0, 0, 0), (.iconst 0, 0, 0, 0, 0), (.putfield 55, 4, 6, 0, 0), (.iconst 0, 0, 0, 0, 0), (.istore_n 1, 0, 0, 0, 0)] (by decide +kernel) rfl rfl ?_
    refine sWk (lo' := [(0, vr 5 a0), (1, vi 0)]) [1, 0] rfl ?_
    exact X4_clear_L37_ok fuN a0 0 (wI (wI (wI (wI (wI (wI (wI μ 5 a0 0 0) 5 a0 1 1) 5 a0 2 5) 5 a0 3 4) 5 a0 4 0) 5 a0 5 0) 5 a0 6 0)
/-! ClockRiver$River.placeOf -/
def X4_placeOf_28_L3 : Nat → Int64 → Nat → Int32 → Int32 → sM → Option (Int32 × sM)
  | 0, _, _, _, _, _ => none
  | n + 1, v0, v2, v3, v4, μ =>
    if v3 ≤ v4 then
      some ((-1), μ)
    else
      if inb v4 6 = true then
        if (lg_cmp (rL μ 28 v2 (ix v4)) v0) = 0 then
          some (v4, μ)
        else
          X4_placeOf_28_L3 n v0 v2 v3 (v4 + 1) μ
      else none
theorem X4_placeOf_28_L3_ok : ∀ (n : Nat) (v0 : Int64) (v2 : Nat) (v3 : Int32) (v4 : Int32) (μ : sM), sOk 4 cX4_placeOf 5 1 false 3 [(0, vl v0), (2, vr 28 v2), (3, vi v3), (4, vi v4)] [] μ (oI (X4_placeOf_28_L3 n v0 v2 v3 v4 μ)) := by
  intro n
  induction n with
  | zero =>
    intros
    exact sNo
  | succ n ih =>
    intro v0 v2 v3 v4 μ
    unfold X4_placeOf_28_L3
    refine sBk (lo' := [(0, vl v0), (2, vr 28 v2), (3, vi v3), (4, vi v4)]) (st' := [vi v3, vi v4]) (μ' := μ) (pc' := 6) [(.iload 4, 0, 0, 0, 0), (.iload_n 3, 0, 0, 0, 0)] (by decide +kernel) rfl rfl ?_
    refine sIc_ge oI (off := 21) (tgt := 27) (by decide +kernel) (by decide) (fun _ => ?_) (fun _ => ?_)
    · refine sBk (lo' := [(0, vl v0), (2, vr 28 v2), (3, vi v3), (4, vi v4)]) (st' := [vi (-1)]) (μ' := μ) (pc' := 28) [(.iconst (-1), 0, 0, (-1), 0)] (by decide +kernel) rfl rfl ?_
      exact sRi (by decide +kernel) (fun h => by cases h)
    · refine sBk (lo' := [(0, vl v0), (2, vr 28 v2), (3, vi v3), (4, vi v4)]) (st' := [vi v4, vr 28 v2]) (μ' := μ) (pc' := 12) [(.aload_n 2, 0, 0, 0, 0), (.iload 4, 0, 0, 0, 0)] (by decide +kernel) rfl rfl ?_
      refine sS_lal oI rfl (n := 6) (j := (ix v4)) (by decide +kernel) rfl rfl rfl (fun _ => ?_)
      refine sBk (lo' := [(0, vl v0), (2, vr 28 v2), (3, vi v3), (4, vi v4)]) (st' := [vi (lg_cmp (rL μ 28 v2 (ix v4)) v0)]) (μ' := μ) (pc' := 15) [(.lload_n 0, 0, 0, 0, 0), (.lcmp, 0, 0, 0, 0)] (by decide +kernel) rfl rfl ?_
      refine sIf_ne oI (off := 6) (tgt := 21) (by decide +kernel) (by decide) (fun _ => ?_) (fun _ => ?_)
      · refine sBk (lo' := [(4, vi (v4 + 1)), (0, vl v0), (2, vr 28 v2), (3, vi v3)]) (st' := []) (μ' := μ) (pc' := 24) [(.iinc 4 1, 0, 0, 1, 0)] (by decide +kernel) rfl rfl ?_
        refine sGt (off := (-21)) (tgt := 3) (by decide +kernel) (by decide) ?_
        refine sWk (lo' := [(0, vl v0), (2, vr 28 v2), (3, vi v3), (4, vi (v4 + 1))]) [1, 2, 3, 0] rfl ?_
        exact ih v0 v2 v3 (v4 + 1) μ
      · refine sBk (lo' := [(0, vl v0), (2, vr 28 v2), (3, vi v3), (4, vi v4)]) (st' := [vi v4]) (μ' := μ) (pc' := 20) [(.iload 4, 0, 0, 0, 0)] (by decide +kernel) rfl rfl ?_
        exact sRi (by decide +kernel) (fun h => by cases h)
def X4_placeOf_28 (a0 : Int64) (a2 : Nat) (a3 : Int32) (μ : sM) : Option (Int32 × sM) :=
  X4_placeOf_28_L3 fuN a0 a2 a3 0 μ
theorem tX4_placeOf_28 (a0 : Int64) (a2 : Nat) (a3 : Int32) (μ : sM) : sMt yX4_placeOf cX4_placeOf 5 (some .int) 1 [vl a0, vr 28 a2, vi a3] μ (oI (X4_placeOf_28 a0 a2 a3 μ)) := by
  refine sMt_of (own := 4) (bl := false) (by decide +kernel) rfl (Nat.le_of_ble_eq_true rfl) (fun r ρ h => ?_) ?_
  · obtain ⟨q, -, hq⟩ := Option.map_eq_some_iff.mp h
    cases hq
    exact Or.inl rfl
  · unfold X4_placeOf_28
    show sOk 4 cX4_placeOf 5 1 false 0 [(0, vl a0), (2, vr 28 a2), (3, vi a3)] [] μ _
    refine sBk (lo' := [(4, vi 0), (0, vl a0), (2, vr 28 a2), (3, vi a3)]) (st' := []) (μ' := μ) (pc' := 3) [(.iconst 0, 0, 0, 0, 0), (.istore 4, 0, 0, 0, 0)] (by decide +kernel) rfl rfl ?_
    refine sWk (lo' := [(0, vl a0), (2, vr 28 a2), (3, vi a3), (4, vi 0)]) [1, 2, 3, 0] rfl ?_
    exact X4_placeOf_28_L3_ok fuN a0 a2 a3 0 μ
/-! ClockRiver$River.placeOf -/
def X4_placeOf_24_L3 : Nat → Int64 → Nat → Int32 → Int32 → sM → Option (Int32 × sM)
  | 0, _, _, _, _, _ => none
  | n + 1, v0, v2, v3, v4, μ =>
    if v3 ≤ v4 then
      some ((-1), μ)
    else
      if inb v4 6 = true then
        if (lg_cmp (rL μ 24 v2 (ix v4)) v0) = 0 then
          some (v4, μ)
        else
          X4_placeOf_24_L3 n v0 v2 v3 (v4 + 1) μ
      else none
theorem X4_placeOf_24_L3_ok : ∀ (n : Nat) (v0 : Int64) (v2 : Nat) (v3 : Int32) (v4 : Int32) (μ : sM), sOk 4 cX4_placeOf 5 1 false 3 [(0, vl v0), (2, vr 24 v2), (3, vi v3), (4, vi v4)] [] μ (oI (X4_placeOf_24_L3 n v0 v2 v3 v4 μ)) := by
  intro n
  induction n with
  | zero =>
    intros
    exact sNo
  | succ n ih =>
    intro v0 v2 v3 v4 μ
    unfold X4_placeOf_24_L3
    refine sBk (lo' := [(0, vl v0), (2, vr 24 v2), (3, vi v3), (4, vi v4)]) (st' := [vi v3, vi v4]) (μ' := μ) (pc' := 6) [(.iload 4, 0, 0, 0, 0), (.iload_n 3, 0, 0, 0, 0)] (by decide +kernel) rfl rfl ?_
    refine sIc_ge oI (off := 21) (tgt := 27) (by decide +kernel) (by decide) (fun _ => ?_) (fun _ => ?_)
    · refine sBk (lo' := [(0, vl v0), (2, vr 24 v2), (3, vi v3), (4, vi v4)]) (st' := [vi (-1)]) (μ' := μ) (pc' := 28) [(.iconst (-1), 0, 0, (-1), 0)] (by decide +kernel) rfl rfl ?_
      exact sRi (by decide +kernel) (fun h => by cases h)
    · refine sBk (lo' := [(0, vl v0), (2, vr 24 v2), (3, vi v3), (4, vi v4)]) (st' := [vi v4, vr 24 v2]) (μ' := μ) (pc' := 12) [(.aload_n 2, 0, 0, 0, 0), (.iload 4, 0, 0, 0, 0)] (by decide +kernel) rfl rfl ?_
      refine sS_lal oI rfl (n := 6) (j := (ix v4)) (by decide +kernel) rfl rfl rfl (fun _ => ?_)
      refine sBk (lo' := [(0, vl v0), (2, vr 24 v2), (3, vi v3), (4, vi v4)]) (st' := [vi (lg_cmp (rL μ 24 v2 (ix v4)) v0)]) (μ' := μ) (pc' := 15) [(.lload_n 0, 0, 0, 0, 0), (.lcmp, 0, 0, 0, 0)] (by decide +kernel) rfl rfl ?_
      refine sIf_ne oI (off := 6) (tgt := 21) (by decide +kernel) (by decide) (fun _ => ?_) (fun _ => ?_)
      · refine sBk (lo' := [(4, vi (v4 + 1)), (0, vl v0), (2, vr 24 v2), (3, vi v3)]) (st' := []) (μ' := μ) (pc' := 24) [(.iinc 4 1, 0, 0, 1, 0)] (by decide +kernel) rfl rfl ?_
        refine sGt (off := (-21)) (tgt := 3) (by decide +kernel) (by decide) ?_
        refine sWk (lo' := [(0, vl v0), (2, vr 24 v2), (3, vi v3), (4, vi (v4 + 1))]) [1, 2, 3, 0] rfl ?_
        exact ih v0 v2 v3 (v4 + 1) μ
      · refine sBk (lo' := [(0, vl v0), (2, vr 24 v2), (3, vi v3), (4, vi v4)]) (st' := [vi v4]) (μ' := μ) (pc' := 20) [(.iload 4, 0, 0, 0, 0)] (by decide +kernel) rfl rfl ?_
        exact sRi (by decide +kernel) (fun h => by cases h)
def X4_placeOf_24 (a0 : Int64) (a2 : Nat) (a3 : Int32) (μ : sM) : Option (Int32 × sM) :=
  X4_placeOf_24_L3 fuN a0 a2 a3 0 μ
theorem tX4_placeOf_24 (a0 : Int64) (a2 : Nat) (a3 : Int32) (μ : sM) : sMt yX4_placeOf cX4_placeOf 5 (some .int) 1 [vl a0, vr 24 a2, vi a3] μ (oI (X4_placeOf_24 a0 a2 a3 μ)) := by
  refine sMt_of (own := 4) (bl := false) (by decide +kernel) rfl (Nat.le_of_ble_eq_true rfl) (fun r ρ h => ?_) ?_
  · obtain ⟨q, -, hq⟩ := Option.map_eq_some_iff.mp h
    cases hq
    exact Or.inl rfl
  · unfold X4_placeOf_24
    show sOk 4 cX4_placeOf 5 1 false 0 [(0, vl a0), (2, vr 24 a2), (3, vi a3)] [] μ _
    refine sBk (lo' := [(4, vi 0), (0, vl a0), (2, vr 24 a2), (3, vi a3)]) (st' := []) (μ' := μ) (pc' := 3) [(.iconst 0, 0, 0, 0, 0), (.istore 4, 0, 0, 0, 0)] (by decide +kernel) rfl rfl ?_
    refine sWk (lo' := [(0, vl a0), (2, vr 24 a2), (3, vi a3), (4, vi 0)]) [1, 2, 3, 0] rfl ?_
    exact X4_placeOf_24_L3_ok fuN a0 a2 a3 0 μ
/-! ClockRiver$River.placeOf -/
def X4_placeOf_50_L3 : Nat → Int64 → Nat → Int32 → Int32 → sM → Option (Int32 × sM)
  | 0, _, _, _, _, _ => none
  | n + 1, v0, v2, v3, v4, μ =>
    if v3 ≤ v4 then
      some ((-1), μ)
    else
      if inb v4 6 = true then
        if (lg_cmp (rL μ 50 v2 (ix v4)) v0) = 0 then
          some (v4, μ)
        else
          X4_placeOf_50_L3 n v0 v2 v3 (v4 + 1) μ
      else none
theorem X4_placeOf_50_L3_ok : ∀ (n : Nat) (v0 : Int64) (v2 : Nat) (v3 : Int32) (v4 : Int32) (μ : sM), sOk 4 cX4_placeOf 5 1 false 3 [(0, vl v0), (2, vr 50 v2), (3, vi v3), (4, vi v4)] [] μ (oI (X4_placeOf_50_L3 n v0 v2 v3 v4 μ)) := by
  intro n
  induction n with
  | zero =>
    intros
    exact sNo
  | succ n ih =>
    intro v0 v2 v3 v4 μ
    unfold X4_placeOf_50_L3
    refine sBk (lo' := [(0, vl v0), (2, vr 50 v2), (3, vi v3), (4, vi v4)]) (st' := [vi v3, vi v4]) (μ' := μ) (pc' := 6) [(.iload 4, 0, 0, 0, 0), (.iload_n 3, 0, 0, 0, 0)] (by decide +kernel) rfl rfl ?_
    refine sIc_ge oI (off := 21) (tgt := 27) (by decide +kernel) (by decide) (fun _ => ?_) (fun _ => ?_)
    · refine sBk (lo' := [(0, vl v0), (2, vr 50 v2), (3, vi v3), (4, vi v4)]) (st' := [vi (-1)]) (μ' := μ) (pc' := 28) [(.iconst (-1), 0, 0, (-1), 0)] (by decide +kernel) rfl rfl ?_
      exact sRi (by decide +kernel) (fun h => by cases h)
    · refine sBk (lo' := [(0, vl v0), (2, vr 50 v2), (3, vi v3), (4, vi v4)]) (st' := [vi v4, vr 50 v2]) (μ' := μ) (pc' := 12) [(.aload_n 2, 0, 0, 0, 0), (.iload 4, 0, 0, 0, 0)] (by decide +kernel) rfl rfl ?_
      refine sS_lal oI rfl (n := 6) (j := (ix v4)) (by decide +kernel) rfl rfl rfl (fun _ => ?_)
      refine sBk (lo' := [(0, vl v0), (2, vr 50 v2), (3, vi v3), (4, vi v4)]) (st' := [vi (lg_cmp (rL μ 50 v2 (ix v4)) v0)]) (μ' := μ) (pc' := 15) [(.lload_n 0, 0, 0, 0, 0), (.lcmp, 0, 0, 0, 0)] (by decide +kernel) rfl rfl ?_
      refine sIf_ne oI (off := 6) (tgt := 21) (by decide +kernel) (by decide) (fun _ => ?_) (fun _ => ?_)
      · refine sBk (lo' := [(4, vi (v4 + 1)), (0, vl v0), (2, vr 50 v2), (3, vi v3)]) (st' := []) (μ' := μ) (pc' := 24) [(.iinc 4 1, 0, 0, 1, 0)] (by decide +kernel) rfl rfl ?_
        refine sGt (off := (-21)) (tgt := 3) (by decide +kernel) (by decide) ?_
        refine sWk (lo' := [(0, vl v0), (2, vr 50 v2), (3, vi v3), (4, vi (v4 + 1))]) [1, 2, 3, 0] rfl ?_
        exact ih v0 v2 v3 (v4 + 1) μ
      · refine sBk (lo' := [(0, vl v0), (2, vr 50 v2), (3, vi v3), (4, vi v4)]) (st' := [vi v4]) (μ' := μ) (pc' := 20) [(.iload 4, 0, 0, 0, 0)] (by decide +kernel) rfl rfl ?_
        exact sRi (by decide +kernel) (fun h => by cases h)
def X4_placeOf_50 (a0 : Int64) (a2 : Nat) (a3 : Int32) (μ : sM) : Option (Int32 × sM) :=
  X4_placeOf_50_L3 fuN a0 a2 a3 0 μ
theorem tX4_placeOf_50 (a0 : Int64) (a2 : Nat) (a3 : Int32) (μ : sM) : sMt yX4_placeOf cX4_placeOf 5 (some .int) 1 [vl a0, vr 50 a2, vi a3] μ (oI (X4_placeOf_50 a0 a2 a3 μ)) := by
  refine sMt_of (own := 4) (bl := false) (by decide +kernel) rfl (Nat.le_of_ble_eq_true rfl) (fun r ρ h => ?_) ?_
  · obtain ⟨q, -, hq⟩ := Option.map_eq_some_iff.mp h
    cases hq
    exact Or.inl rfl
  · unfold X4_placeOf_50
    show sOk 4 cX4_placeOf 5 1 false 0 [(0, vl a0), (2, vr 50 a2), (3, vi a3)] [] μ _
    refine sBk (lo' := [(4, vi 0), (0, vl a0), (2, vr 50 a2), (3, vi a3)]) (st' := []) (μ' := μ) (pc' := 3) [(.iconst 0, 0, 0, 0, 0), (.istore 4, 0, 0, 0, 0)] (by decide +kernel) rfl rfl ?_
    refine sWk (lo' := [(0, vl a0), (2, vr 50 a2), (3, vi a3), (4, vi 0)]) [1, 2, 3, 0] rfl ?_
    exact X4_placeOf_50_L3_ok fuN a0 a2 a3 0 μ
/-! ClockRiver$River.isTaken -/
def X4_isTaken (a0 : Nat) (a1 : Int64) (μ : sM) : Option (Int32 × sM) :=
  bI (X4_placeOf_28 a1 a0 (rI μ 4 a0 0) μ) fun x1 μ2 =>
    if x1 = (-1) then
      bI (X4_placeOf_24 a1 a0 (rI μ2 3 a0 0) μ2) fun x3 μ4 =>
        if x3 = (-1) then
          bI (X4_placeOf_50 a1 a0 (rI μ4 11 a0 0) μ4) fun x5 μ6 =>
            if x5 = (-1) then
              some (0, μ6)
            else
              some (1, μ6)
        else
          some (1, μ4)
    else
      some (1, μ2)
theorem tX4_isTaken (a0 : Nat) (a1 : Int64) (μ : sM) : sMt yX4_isTaken cX4_isTaken 3 (some .boolean) 2 [vr 5 a0, vl a1] μ (oI (X4_isTaken a0 a1 μ)) := by
  refine sMt_of (own := 4) (bl := true) (by decide +kernel) rfl (Nat.le_of_ble_eq_true rfl) (fun r ρ h => ?_) ?_
  · obtain ⟨q, -, hq⟩ := Option.map_eq_some_iff.mp h
    cases hq
    exact Or.inr ⟨rfl, rfl⟩
  · unfold X4_isTaken
    show sOk 4 cX4_isTaken 3 2 true 0 [(0, vr 5 a0), (1, vl a1)] [] μ _
    refine sBk (lo' := [(0, vr 5 a0), (1, vl a1)]) (st' := [vi (rI μ 4 a0 0), vr 28 a0, vl a1]) (μ' := μ) (pc' := 15) [(.lload_n 1, 0, 0, 0, 0), (.aload_n 0, 0, 0, 0, 0), (.getfield 28, 4, 8, 0, 0), (.getfield 80, 3, 1, 0, 0), (.aload_n 0, 0, 0, 0, 0), (.getfield 28, 4, 8, 0, 0), (.getfield 59, 3, 0, 0, 0)] (by decide +kernel) rfl rfl ?_
    refine sCsI oI rfl (avs := [vl a1, vr 28 a0, vi (rI μ 4 a0 0)]) (rest := []) (tX4_placeOf_28 a1 a0 (rI μ 4 a0 0) μ) (by decide) (by decide +kernel) lk_4_83 ys_X4_placeOf rfl rfl (Nat.le_of_ble_eq_true rfl) (fun x1 μ2 => ?_)
    refine sBk (lo' := [(0, vr 5 a0), (1, vl a1)]) (st' := [vi (-1), vi x1]) (μ' := μ2) (pc' := 19) [(.iconst (-1), 0, 0, (-1), 0)] (by decide +kernel) rfl rfl ?_
    refine sIc_ne oI (off := 47) (tgt := 66) (by decide +kernel) (by decide) (fun _ => ?_) (fun _ => ?_)
    · refine sBk (lo' := [(0, vr 5 a0), (1, vl a1)]) (st' := [vi 1]) (μ' := μ2) (pc' := 67) [(.iconst 1, 0, 0, 1, 0)] (by decide +kernel) rfl rfl ?_
      refine sGt (off := 4) (tgt := 71) (by decide +kernel) (by decide) ?_
      exact sRi (by decide +kernel) (fun _ => Or.inr rfl)
    · refine sBk (lo' := [(0, vr 5 a0), (1, vl a1)]) (st' := [vi (rI μ2 3 a0 0), vr 24 a0, vl a1]) (μ' := μ2) (pc' := 37) [(.lload_n 1, 0, 0, 0, 0), (.aload_n 0, 0, 0, 0, 0), (.getfield 35, 4, 9, 0, 0), (.getfield 87, 2, 1, 0, 0), (.aload_n 0, 0, 0, 0, 0), (.getfield 35, 4, 9, 0, 0), (.getfield 62, 2, 0, 0, 0)] (by decide +kernel) rfl rfl ?_
      refine sCsI oI rfl (avs := [vl a1, vr 24 a0, vi (rI μ2 3 a0 0)]) (rest := []) (tX4_placeOf_24 a1 a0 (rI μ2 3 a0 0) μ2) (by decide) (by decide +kernel) lk_4_83 ys_X4_placeOf rfl rfl (Nat.le_of_ble_eq_true rfl) (fun x3 μ4 => ?_)
      refine sBk (lo' := [(0, vr 5 a0), (1, vl a1)]) (st' := [vi (-1), vi x3]) (μ' := μ4) (pc' := 41) [(.iconst (-1), 0, 0, (-1), 0)] (by decide +kernel) rfl rfl ?_
      refine sIc_ne oI (off := 25) (tgt := 66) (by decide +kernel) (by decide) (fun _ => ?_) (fun _ => ?_)
      · refine sBk (lo' := [(0, vr 5 a0), (1, vl a1)]) (st' := [vi 1]) (μ' := μ4) (pc' := 67) [(.iconst 1, 0, 0, 1, 0)] (by decide +kernel) rfl rfl ?_
        refine sGt (off := 4) (tgt := 71) (by decide +kernel) (by decide) ?_
        exact sRi (by decide +kernel) (fun _ => Or.inr rfl)
      · refine sBk (lo' := [(0, vr 5 a0), (1, vl a1)]) (st' := [vi (rI μ4 11 a0 0), vr 50 a0, vl a1]) (μ' := μ4) (pc' := 59) [(.lload_n 1, 0, 0, 0, 0), (.aload_n 0, 0, 0, 0, 0), (.getfield 42, 4, 10, 0, 0), (.getfield 88, 10, 1, 0, 0), (.aload_n 0, 0, 0, 0, 0), (.getfield 42, 4, 10, 0, 0), (.getfield 63, 10, 0, 0, 0)] (by decide +kernel) rfl rfl ?_
        refine sCsI oI rfl (avs := [vl a1, vr 50 a0, vi (rI μ4 11 a0 0)]) (rest := []) (tX4_placeOf_50 a1 a0 (rI μ4 11 a0 0) μ4) (by decide) (by decide +kernel) lk_4_83 ys_X4_placeOf rfl rfl (Nat.le_of_ble_eq_true rfl) (fun x5 μ6 => ?_)
        refine sBk (lo' := [(0, vr 5 a0), (1, vl a1)]) (st' := [vi (-1), vi x5]) (μ' := μ6) (pc' := 63) [(.iconst (-1), 0, 0, (-1), 0)] (by decide +kernel) rfl rfl ?_
        refine sIc_eq oI (off := 7) (tgt := 70) (by decide +kernel) (by decide) (fun _ => ?_) (fun _ => ?_)
        · refine sBk (lo' := [(0, vr 5 a0), (1, vl a1)]) (st' := [vi 0]) (μ' := μ6) (pc' := 71) [(.iconst 0, 0, 0, 0, 0)] (by decide +kernel) rfl rfl ?_
          exact sRi (by decide +kernel) (fun _ => Or.inl rfl)
        · refine sBk (lo' := [(0, vr 5 a0), (1, vl a1)]) (st' := [vi 1]) (μ' := μ6) (pc' := 67) [(.iconst 1, 0, 0, 1, 0)] (by decide +kernel) rfl rfl ?_
          refine sGt (off := 4) (tgt := 71) (by decide +kernel) (by decide) ?_
          exact sRi (by decide +kernel) (fun _ => Or.inr rfl)
/-! ClockRiver$River.copyFrom -/
def X4_copyFrom (a0 : Nat) (a1 : Nat) (μ : sM) : Option sM :=
  if (rI μ 5 a1 6) = 0 ∨ (rI μ 5 a1 6) = 1 then
    if cpo 0 0 6 6 6 = true then
      bV (X3_copyFrom a0 a1 (cL (wI (wI (wI (wI (wI (wI (wI μ 5 a0 0 (rI μ 5 a1 0)) 5 a0 1 (rI μ 5 a1 1)) 5 a0 2 (rI μ 5 a1 2)) 5 a0 3 (rI μ 5 a1 3)) 5 a0 4 (rI μ 5 a1 4)) 5 a0 5 (rI μ 5 a1 5)) 5 a0 6 (rI μ 5 a1 6)) 34 a1 (ix 0) 34 a0 (ix 0) (ix 6))) fun μ2 =>
        bV (X2_copyFrom a0 a1 μ2) fun μ4 =>
          bV (X10_copyFrom a0 a1 μ4) fun μ6 =>
            some μ6
    else none
  else none
theorem tX4_copyFrom (a0 : Nat) (a1 : Nat) (μ : sM) : sMt yX4_copyFrom cX4_copyFrom 2 none 2 [vr 5 a0, vr 5 a1] μ (oV (X4_copyFrom a0 a1 μ)) := by
  refine sMt_of (own := 4) (bl := false) (by decide +kernel) rfl (Nat.le_of_ble_eq_true rfl) (fun r ρ h => ?_) ?_
  · obtain ⟨q, -, hq⟩ := Option.map_eq_some_iff.mp h
    cases hq
    exact rfl
  · unfold X4_copyFrom
    show sOk 4 cX4_copyFrom 2 2 false 0 [(0, vr 5 a0), (1, vr 5 a1)] [] μ _
    refine sBk (lo' := [(0, vr 5 a0), (1, vr 5 a1)]) (st' := [vi (rI μ 5 a1 6), vr 5 a0]) (μ' := wI (wI (wI (wI (wI (wI μ 5 a0 0 (rI μ 5 a1 0)) 5 a0 1 (rI μ 5 a1 1)) 5 a0 2 (rI μ 5 a1 2)) 5 a0 3 (rI μ 5 a1 3)) 5 a0 4 (rI μ 5 a1 4)) 5 a0 5 (rI μ 5 a1 5)) (pc' := 53) [(.aload_n 0, 0, 0, 0, 0), (.aload_n 1, 0, 0, 0, 0), (.getfield 46, 4, 0, 0, 0), (.putfield 46, 4, 0, 0, 0), (.aload_n 0, 0, 0, 0, 0), (.aload_n 1, 0, 0, 0, 0), (.getfield 9, 4, 1, 0, 0), (.putfield 9, 4, 1, 0, 0), (.aload_n 0, 0, 0, 0, 0), (.aload_n 1, 0, 0, 0, 0), (.getfield 15, 4, 2, 0, 0), (.putfield 15, 4, 2, 0, 0), (.aload_n 0, 0, 0, 0, 0), (.aload_n 1, 0, 0, 0, 0), (.getfield 18, 4, 3, 0, 0), (.putfield 18, 4, 3, 0, 0), (.aload_n 0, 0, 0, 0, 0), (.aload_n 1, 0, 0, 0, 0), (.getfield 49, 4, 4, 0, 0), (.putfield 49, 4, 4, 0, 0), (.aload_n 0, 0, 0, 0, 0), (.aload_n 1, 0, 0, 0, 0), (.getfield 52, 4, 5, 0, 0), (.putfield 52, 4, 5, 0, 0), (.aload_n 0, 0, 0, 0, 0), (.aload_n 1, 0, 0, 0, 0), (.getfield 55, 4, 6, 0, 0)] (by decide +kernel) rfl rfl ?_
    refine sS_pz oV rfl (idx := 55) (ci := 4) (sl := 6) (by decide +kernel) rfl rfl (fun _ => ?_)
    refine sBk (lo' := [(0, vr 5 a0), (1, vr 5 a1)]) (st' := [vi 6, vi 0, vr 34 a0, vi 0, vr 34 a1]) (μ' := wI (wI (wI (wI (wI (wI (wI μ 5 a0 0 (rI μ 5 a1 0)) 5 a0 1 (rI μ 5 a1 1)) 5 a0 2 (rI μ 5 a1 2)) 5 a0 3 (rI μ 5 a1 3)) 5 a0 4 (rI μ 5 a1 4)) 5 a0 5 (rI μ 5 a1 5)) 5 a0 6 (rI μ 5 a1 6)) (pc' := 68) [(.aload_n 1, 0, 0, 0, 0), (.getfield 21, 4, 7, 0, 0), (.iconst 0, 0, 0, 0, 0), (.aload_n 0, 0, 0, 0, 0), (.getfield 21, 4, 7, 0, 0), (.iconst 0, 0, 0, 0, 0), (.bipush 6, 0, 0, 6, 0)] (by decide +kernel) rfl rfl ?_
    refine sCk oV rfl (fun h => ?_)
    refine sCpL (q0 := (34, a1)) (q1 := (34, a0)) (idx := 64) (p1 := 929) (by decide +kernel) rfl rfl (by decide) h ?_
    refine sBk (lo' := [(0, vr 5 a0), (1, vr 5 a1)]) (st' := [vr 4 a1, vr 4 a0]) (μ' := cL (wI (wI (wI (wI (wI (wI (wI μ 5 a0 0 (rI μ 5 a1 0)) 5 a0 1 (rI μ 5 a1 1)) 5 a0 2 (rI μ 5 a1 2)) 5 a0 3 (rI μ 5 a1 3)) 5 a0 4 (rI μ 5 a1 4)) 5 a0 5 (rI μ 5 a1 5)) 5 a0 6 (rI μ 5 a1 6)) 34 a1 (ix 0) 34 a0 (ix 0) (ix 6)) (pc' := 79) [(.aload_n 0, 0, 0, 0, 0), (.getfield 28, 4, 8, 0, 0), (.aload_n 1, 0, 0, 0, 0), (.getfield 28, 4, 8, 0, 0)] (by decide +kernel) rfl rfl ?_
    refine sCvV oV rfl (ci := 3) (q := (4, a0)) (avs := [vr 4 a1]) (rest := []) (tX3_copyFrom a0 a1 (cL (wI (wI (wI (wI (wI (wI (wI μ 5 a0 0 (rI μ 5 a1 0)) 5 a0 1 (rI μ 5 a1 1)) 5 a0 2 (rI μ 5 a1 2)) 5 a0 3 (rI μ 5 a1 3)) 5 a0 4 (rI μ 5 a1 4)) 5 a0 5 (rI μ 5 a1 5)) 5 a0 6 (rI μ 5 a1 6)) 34 a1 (ix 0) 34 a0 (ix 0) (ix 6))) (by decide) (by decide +kernel) lk_4_70 yv_X3_copyFrom rfl (by decide) rfl rfl rfl (Nat.le_of_ble_eq_true rfl) (fun μ2 => ?_)
    refine sBk (lo' := [(0, vr 5 a0), (1, vr 5 a1)]) (st' := [vr 3 a1, vr 3 a0]) (μ' := μ2) (pc' := 90) [(.aload_n 0, 0, 0, 0, 0), (.getfield 35, 4, 9, 0, 0), (.aload_n 1, 0, 0, 0, 0), (.getfield 35, 4, 9, 0, 0)] (by decide +kernel) rfl rfl ?_
    refine sCvV oV rfl (ci := 2) (q := (3, a0)) (avs := [vr 3 a1]) (rest := []) (tX2_copyFrom a0 a1 μ2) (by decide) (by decide +kernel) lk_4_74 yv_X2_copyFrom rfl (by decide) rfl rfl rfl (Nat.le_of_ble_eq_true rfl) (fun μ4 => ?_)
    refine sBk (lo' := [(0, vr 5 a0), (1, vr 5 a1)]) (st' := [vr 11 a1, vr 11 a0]) (μ' := μ4) (pc' := 101) [(.aload_n 0, 0, 0, 0, 0), (.getfield 42, 4, 10, 0, 0), (.aload_n 1, 0, 0, 0, 0), (.getfield 42, 4, 10, 0, 0)] (by decide +kernel) rfl rfl ?_
    refine sCvV oV rfl (ci := 10) (q := (11, a0)) (avs := [vr 11 a1]) (rest := []) (tX10_copyFrom a0 a1 μ4) (by decide) (by decide +kernel) lk_4_77 yv_X10_copyFrom rfl (by decide) rfl rfl rfl (Nat.le_of_ble_eq_true rfl) (fun μ6 => ?_)
    exact sRv (by decide +kernel)
/-! ClockRiver$River.figure -/
def X4_figure (a0 : Nat) (a1 : Int32) (μ : sM) : Option (Int32 × sM) :=
  if a1 = 0 then
    some ((rI μ 4 a0 0), μ)
  else if a1 = 1 then
    some ((rI μ 3 a0 0), μ)
  else if a1 = 2 then
    some ((rI μ 11 a0 0), μ)
  else if a1 = 3 then
    some ((rI μ 5 a0 1), μ)
  else if a1 = 4 then
    some ((rI μ 5 a0 2), μ)
  else if a1 = 5 then
    some ((rI μ 5 a0 3), μ)
  else if a1 = 6 then
    some ((rI μ 5 a0 4), μ)
  else if a1 = 7 then
    some (((rI μ 5 a0 4) / 24), μ)
  else if a1 = 8 then
    if (rI μ 5 a0 6) = 0 then
      some (0, μ)
    else
      some (1, μ)
  else if a1 = 9 then
    some ((rI μ 5 a0 5), μ)
  else if a1 = 10 then
    bI (X3_allHeld a0 μ) fun x1 μ2 =>
      some (x1, μ2)
  else if a1 = 11 then
    bI (X10_allHad a0 μ) fun x3 μ4 =>
      some (x3, μ4)
  else
    bI (X2_allGround a0 μ) fun x5 μ6 =>
      some (x5, μ6)
theorem tX4_figure (a0 : Nat) (a1 : Int32) (μ : sM) : sMt yX4_figure cX4_figure 2 (some .int) 2 [vr 5 a0, vi a1] μ (oI (X4_figure a0 a1 μ)) := by
  refine sMt_of (own := 4) (bl := false) (by decide +kernel) rfl (Nat.le_of_ble_eq_true rfl) (fun r ρ h => ?_) ?_
  · obtain ⟨q, -, hq⟩ := Option.map_eq_some_iff.mp h
    cases hq
    exact Or.inl rfl
  · unfold X4_figure
    show sOk 4 cX4_figure 2 2 false 0 [(0, vr 5 a0), (1, vi a1)] [] μ _
    refine sBk (lo' := [(0, vr 5 a0), (1, vi a1)]) (st' := [vi a1]) (μ' := μ) (pc' := 1) [(.iload_n 1, 0, 0, 0, 0)] (by decide +kernel) rfl rfl ?_
    refine sTs (ps := [(0, 64), (1, 72), (2, 80), (3, 88), (4, 93), (5, 98), (6, 103), (7, 108), (8, 116), (9, 129), (10, 134), (11, 142)]) (df := 150) (by decide +kernel) ?_
    refine sSc oI (fun _ => ?_) (fun _ => ?_)
    · refine sBk (lo' := [(0, vr 5 a0), (1, vi a1)]) (st' := [vi (rI μ 4 a0 0)]) (μ' := μ) (pc' := 71) [(.aload_n 0, 0, 0, 0, 0), (.getfield 28, 4, 8, 0, 0), (.getfield 59, 3, 0, 0, 0)] (by decide +kernel) rfl rfl ?_
      exact sRi (by decide +kernel) (fun h => by cases h)
    refine sSc oI (fun _ => ?_) (fun _ => ?_)
    · refine sBk (lo' := [(0, vr 5 a0), (1, vi a1)]) (st' := [vi (rI μ 3 a0 0)]) (μ' := μ) (pc' := 79) [(.aload_n 0, 0, 0, 0, 0), (.getfield 35, 4, 9, 0, 0), (.getfield 62, 2, 0, 0, 0)] (by decide +kernel) rfl rfl ?_
      exact sRi (by decide +kernel) (fun h => by cases h)
    refine sSc oI (fun _ => ?_) (fun _ => ?_)
    · refine sBk (lo' := [(0, vr 5 a0), (1, vi a1)]) (st' := [vi (rI μ 11 a0 0)]) (μ' := μ) (pc' := 87) [(.aload_n 0, 0, 0, 0, 0), (.getfield 42, 4, 10, 0, 0), (.getfield 63, 10, 0, 0, 0)] (by decide +kernel) rfl rfl ?_
      exact sRi (by decide +kernel) (fun h => by cases h)
    refine sSc oI (fun _ => ?_) (fun _ => ?_)
    · refine sBk (lo' := [(0, vr 5 a0), (1, vi a1)]) (st' := [vi (rI μ 5 a0 1)]) (μ' := μ) (pc' := 92) [(.aload_n 0, 0, 0, 0, 0), (.getfield 9, 4, 1, 0, 0)] (by decide +kernel) rfl rfl ?_
      exact sRi (by decide +kernel) (fun h => by cases h)
    refine sSc oI (fun _ => ?_) (fun _ => ?_)
    · refine sBk (lo' := [(0, vr 5 a0), (1, vi a1)]) (st' := [vi (rI μ 5 a0 2)]) (μ' := μ) (pc' := 97) [(.aload_n 0, 0, 0, 0, 0), (.getfield 15, 4, 2, 0, 0)] (by decide +kernel) rfl rfl ?_
      exact sRi (by decide +kernel) (fun h => by cases h)
    refine sSc oI (fun _ => ?_) (fun _ => ?_)
    · refine sBk (lo' := [(0, vr 5 a0), (1, vi a1)]) (st' := [vi (rI μ 5 a0 3)]) (μ' := μ) (pc' := 102) [(.aload_n 0, 0, 0, 0, 0), (.getfield 18, 4, 3, 0, 0)] (by decide +kernel) rfl rfl ?_
      exact sRi (by decide +kernel) (fun h => by cases h)
    refine sSc oI (fun _ => ?_) (fun _ => ?_)
    · refine sBk (lo' := [(0, vr 5 a0), (1, vi a1)]) (st' := [vi (rI μ 5 a0 4)]) (μ' := μ) (pc' := 107) [(.aload_n 0, 0, 0, 0, 0), (.getfield 49, 4, 4, 0, 0)] (by decide +kernel) rfl rfl ?_
      exact sRi (by decide +kernel) (fun h => by cases h)
    refine sSc oI (fun _ => ?_) (fun _ => ?_)
    · refine sBk (lo' := [(0, vr 5 a0), (1, vi a1)]) (st' := [vi 24, vi (rI μ 5 a0 4)]) (μ' := μ) (pc' := 114) [(.aload_n 0, 0, 0, 0, 0), (.getfield 49, 4, 4, 0, 0), (.bipush 24, 0, 0, 24, 0)] (by decide +kernel) rfl rfl ?_
      refine sC_idv (by decide +kernel) (by decide +kernel) ?_
      exact sRi (by decide +kernel) (fun h => by cases h)
    refine sSc oI (fun _ => ?_) (fun _ => ?_)
    · refine sBk (lo' := [(0, vr 5 a0), (1, vi a1)]) (st' := [vi (rI μ 5 a0 6)]) (μ' := μ) (pc' := 120) [(.aload_n 0, 0, 0, 0, 0), (.getfield 55, 4, 6, 0, 0)] (by decide +kernel) rfl rfl ?_
      refine sIf_eq oI (off := 7) (tgt := 127) (by decide +kernel) (by decide) (fun _ => ?_) (fun _ => ?_)
      · refine sBk (lo' := [(0, vr 5 a0), (1, vi a1)]) (st' := [vi 0]) (μ' := μ) (pc' := 128) [(.iconst 0, 0, 0, 0, 0)] (by decide +kernel) rfl rfl ?_
        exact sRi (by decide +kernel) (fun h => by cases h)
      · refine sBk (lo' := [(0, vr 5 a0), (1, vi a1)]) (st' := [vi 1]) (μ' := μ) (pc' := 124) [(.iconst 1, 0, 0, 1, 0)] (by decide +kernel) rfl rfl ?_
        refine sGt (off := 4) (tgt := 128) (by decide +kernel) (by decide) ?_
        exact sRi (by decide +kernel) (fun h => by cases h)
    refine sSc oI (fun _ => ?_) (fun _ => ?_)
    · refine sBk (lo' := [(0, vr 5 a0), (1, vi a1)]) (st' := [vi (rI μ 5 a0 5)]) (μ' := μ) (pc' := 133) [(.aload_n 0, 0, 0, 0, 0), (.getfield 52, 4, 5, 0, 0)] (by decide +kernel) rfl rfl ?_
      exact sRi (by decide +kernel) (fun h => by cases h)
    refine sSc oI (fun _ => ?_) (fun _ => ?_)
    · refine sBk (lo' := [(0, vr 5 a0), (1, vi a1)]) (st' := [vr 4 a0]) (μ' := μ) (pc' := 138) [(.aload_n 0, 0, 0, 0, 0), (.getfield 28, 4, 8, 0, 0)] (by decide +kernel) rfl rfl ?_
      refine sCvI oI rfl (ci := 3) (q := (4, a0)) (avs := []) (rest := []) (tX3_allHeld a0 μ) (by decide) (by decide +kernel) lk_4_89 yv_X3_allHeld rfl (by decide) rfl rfl rfl (Nat.le_of_ble_eq_true rfl) (fun x1 μ2 => ?_)
      exact sRi (by decide +kernel) (fun h => by cases h)
    refine sSc oI (fun _ => ?_) (fun _ => ?_)
    · refine sBk (lo' := [(0, vr 5 a0), (1, vi a1)]) (st' := [vr 11 a0]) (μ' := μ) (pc' := 146) [(.aload_n 0, 0, 0, 0, 0), (.getfield 42, 4, 10, 0, 0)] (by decide +kernel) rfl rfl ?_
      refine sCvI oI rfl (ci := 10) (q := (11, a0)) (avs := []) (rest := []) (tX10_allHad a0 μ) (by decide) (by decide +kernel) lk_4_93 yv_X10_allHad rfl (by decide) rfl rfl rfl (Nat.le_of_ble_eq_true rfl) (fun x3 μ4 => ?_)
      exact sRi (by decide +kernel) (fun h => by cases h)
    refine sSd ?_
    refine sBk (lo' := [(0, vr 5 a0), (1, vi a1)]) (st' := [vr 3 a0]) (μ' := μ) (pc' := 154) [(.aload_n 0, 0, 0, 0, 0), (.getfield 35, 4, 9, 0, 0)] (by decide +kernel) rfl rfl ?_
    refine sCvI oI rfl (ci := 2) (q := (3, a0)) (avs := []) (rest := []) (tX2_allGround a0 μ) (by decide) (by decide +kernel) lk_4_96 yv_X2_allGround rfl (by decide) rfl rfl rfl (Nat.le_of_ble_eq_true rfl) (fun x5 μ6 => ?_)
    exact sRi (by decide +kernel) (fun h => by cases h)
/-! ClockRiver$River.hasReach -/
def X4_hasReach (a0 : Nat) (a1 : Int32) (μ : sM) : Option (Int32 × sM) :=
  if a1 < 0 then
    some (0, μ)
  else
    if (rI μ 4 a0 0) ≤ a1 then
      some (0, μ)
    else
      some (1, μ)
theorem tX4_hasReach (a0 : Nat) (a1 : Int32) (μ : sM) : sMt yX4_hasReach cX4_hasReach 2 (some .boolean) 1 [vr 5 a0, vi a1] μ (oI (X4_hasReach a0 a1 μ)) := by
  refine sMt_of (own := 4) (bl := true) (by decide +kernel) rfl (Nat.le_of_ble_eq_true rfl) (fun r ρ h => ?_) ?_
  · obtain ⟨q, -, hq⟩ := Option.map_eq_some_iff.mp h
    cases hq
    exact Or.inr ⟨rfl, rfl⟩
  · unfold X4_hasReach
    show sOk 4 cX4_hasReach 2 1 true 0 [(0, vr 5 a0), (1, vi a1)] [] μ _
    refine sBk (lo' := [(0, vr 5 a0), (1, vi a1)]) (st' := [vi a1]) (μ' := μ) (pc' := 1) [(.iload_n 1, 0, 0, 0, 0)] (by decide +kernel) rfl rfl ?_
    refine sIf_lt oI (off := 18) (tgt := 19) (by decide +kernel) (by decide) (fun _ => ?_) (fun _ => ?_)
    · refine sBk (lo' := [(0, vr 5 a0), (1, vi a1)]) (st' := [vi 0]) (μ' := μ) (pc' := 20) [(.iconst 0, 0, 0, 0, 0)] (by decide +kernel) rfl rfl ?_
      exact sRi (by decide +kernel) (fun _ => Or.inl rfl)
    · refine sBk (lo' := [(0, vr 5 a0), (1, vi a1)]) (st' := [vi (rI μ 4 a0 0), vi a1]) (μ' := μ) (pc' := 12) [(.iload_n 1, 0, 0, 0, 0), (.aload_n 0, 0, 0, 0, 0), (.getfield 28, 4, 8, 0, 0), (.getfield 59, 3, 0, 0, 0)] (by decide +kernel) rfl rfl ?_
      refine sIc_ge oI (off := 7) (tgt := 19) (by decide +kernel) (by decide) (fun _ => ?_) (fun _ => ?_)
      · refine sBk (lo' := [(0, vr 5 a0), (1, vi a1)]) (st' := [vi 0]) (μ' := μ) (pc' := 20) [(.iconst 0, 0, 0, 0, 0)] (by decide +kernel) rfl rfl ?_
        exact sRi (by decide +kernel) (fun _ => Or.inl rfl)
      · refine sBk (lo' := [(0, vr 5 a0), (1, vi a1)]) (st' := [vi 1]) (μ' := μ) (pc' := 16) [(.iconst 1, 0, 0, 1, 0)] (by decide +kernel) rfl rfl ?_
        refine sGt (off := 4) (tgt := 20) (by decide +kernel) (by decide) ?_
        exact sRi (by decide +kernel) (fun _ => Or.inr rfl)
/-! ClockRiver$River.hasMill -/
def X4_hasMill (a0 : Nat) (a1 : Int32) (μ : sM) : Option (Int32 × sM) :=
  if a1 < 0 then
    some (0, μ)
  else
    if (rI μ 3 a0 0) ≤ a1 then
      some (0, μ)
    else
      some (1, μ)
theorem tX4_hasMill (a0 : Nat) (a1 : Int32) (μ : sM) : sMt yX4_hasMill cX4_hasMill 2 (some .boolean) 1 [vr 5 a0, vi a1] μ (oI (X4_hasMill a0 a1 μ)) := by
  refine sMt_of (own := 4) (bl := true) (by decide +kernel) rfl (Nat.le_of_ble_eq_true rfl) (fun r ρ h => ?_) ?_
  · obtain ⟨q, -, hq⟩ := Option.map_eq_some_iff.mp h
    cases hq
    exact Or.inr ⟨rfl, rfl⟩
  · unfold X4_hasMill
    show sOk 4 cX4_hasMill 2 1 true 0 [(0, vr 5 a0), (1, vi a1)] [] μ _
    refine sBk (lo' := [(0, vr 5 a0), (1, vi a1)]) (st' := [vi a1]) (μ' := μ) (pc' := 1) [(.iload_n 1, 0, 0, 0, 0)] (by decide +kernel) rfl rfl ?_
    refine sIf_lt oI (off := 18) (tgt := 19) (by decide +kernel) (by decide) (fun _ => ?_) (fun _ => ?_)
    · refine sBk (lo' := [(0, vr 5 a0), (1, vi a1)]) (st' := [vi 0]) (μ' := μ) (pc' := 20) [(.iconst 0, 0, 0, 0, 0)] (by decide +kernel) rfl rfl ?_
      exact sRi (by decide +kernel) (fun _ => Or.inl rfl)
    · refine sBk (lo' := [(0, vr 5 a0), (1, vi a1)]) (st' := [vi (rI μ 3 a0 0), vi a1]) (μ' := μ) (pc' := 12) [(.iload_n 1, 0, 0, 0, 0), (.aload_n 0, 0, 0, 0, 0), (.getfield 35, 4, 9, 0, 0), (.getfield 62, 2, 0, 0, 0)] (by decide +kernel) rfl rfl ?_
      refine sIc_ge oI (off := 7) (tgt := 19) (by decide +kernel) (by decide) (fun _ => ?_) (fun _ => ?_)
      · refine sBk (lo' := [(0, vr 5 a0), (1, vi a1)]) (st' := [vi 0]) (μ' := μ) (pc' := 20) [(.iconst 0, 0, 0, 0, 0)] (by decide +kernel) rfl rfl ?_
        exact sRi (by decide +kernel) (fun _ => Or.inl rfl)
      · refine sBk (lo' := [(0, vr 5 a0), (1, vi a1)]) (st' := [vi 1]) (μ' := μ) (pc' := 16) [(.iconst 1, 0, 0, 1, 0)] (by decide +kernel) rfl rfl ?_
        refine sGt (off := 4) (tgt := 20) (by decide +kernel) (by decide) ?_
        exact sRi (by decide +kernel) (fun _ => Or.inr rfl)
/-! ClockRiver$River.hasWinder -/
def X4_hasWinder (a0 : Nat) (a1 : Int32) (μ : sM) : Option (Int32 × sM) :=
  if a1 < 0 then
    some (0, μ)
  else
    if (rI μ 11 a0 0) ≤ a1 then
      some (0, μ)
    else
      some (1, μ)
theorem tX4_hasWinder (a0 : Nat) (a1 : Int32) (μ : sM) : sMt yX4_hasWinder cX4_hasWinder 2 (some .boolean) 1 [vr 5 a0, vi a1] μ (oI (X4_hasWinder a0 a1 μ)) := by
  refine sMt_of (own := 4) (bl := true) (by decide +kernel) rfl (Nat.le_of_ble_eq_true rfl) (fun r ρ h => ?_) ?_
  · obtain ⟨q, -, hq⟩ := Option.map_eq_some_iff.mp h
    cases hq
    exact Or.inr ⟨rfl, rfl⟩
  · unfold X4_hasWinder
    show sOk 4 cX4_hasWinder 2 1 true 0 [(0, vr 5 a0), (1, vi a1)] [] μ _
    refine sBk (lo' := [(0, vr 5 a0), (1, vi a1)]) (st' := [vi a1]) (μ' := μ) (pc' := 1) [(.iload_n 1, 0, 0, 0, 0)] (by decide +kernel) rfl rfl ?_
    refine sIf_lt oI (off := 18) (tgt := 19) (by decide +kernel) (by decide) (fun _ => ?_) (fun _ => ?_)
    · refine sBk (lo' := [(0, vr 5 a0), (1, vi a1)]) (st' := [vi 0]) (μ' := μ) (pc' := 20) [(.iconst 0, 0, 0, 0, 0)] (by decide +kernel) rfl rfl ?_
      exact sRi (by decide +kernel) (fun _ => Or.inl rfl)
    · refine sBk (lo' := [(0, vr 5 a0), (1, vi a1)]) (st' := [vi (rI μ 11 a0 0), vi a1]) (μ' := μ) (pc' := 12) [(.iload_n 1, 0, 0, 0, 0), (.aload_n 0, 0, 0, 0, 0), (.getfield 42, 4, 10, 0, 0), (.getfield 63, 10, 0, 0, 0)] (by decide +kernel) rfl rfl ?_
      refine sIc_ge oI (off := 7) (tgt := 19) (by decide +kernel) (by decide) (fun _ => ?_) (fun _ => ?_)
      · refine sBk (lo' := [(0, vr 5 a0), (1, vi a1)]) (st' := [vi 0]) (μ' := μ) (pc' := 20) [(.iconst 0, 0, 0, 0, 0)] (by decide +kernel) rfl rfl ?_
        exact sRi (by decide +kernel) (fun _ => Or.inl rfl)
      · refine sBk (lo' := [(0, vr 5 a0), (1, vi a1)]) (st' := [vi 1]) (μ' := μ) (pc' := 16) [(.iconst 1, 0, 0, 1, 0)] (by decide +kernel) rfl rfl ?_
        refine sGt (off := 4) (tgt := 20) (by decide +kernel) (by decide) ?_
        exact sRi (by decide +kernel) (fun _ => Or.inr rfl)
/-! ClockRiver$River.hasHours -/
def X4_hasHours (a0 : Nat) (a1 : Int32) (μ : sM) : Option (Int32 × sM) :=
  if 9999 < ((rI μ 5 a0 4) + a1) then
    some (0, μ)
  else
    some (1, μ)
theorem tX4_hasHours (a0 : Nat) (a1 : Int32) (μ : sM) : sMt yX4_hasHours cX4_hasHours 2 (some .boolean) 1 [vr 5 a0, vi a1] μ (oI (X4_hasHours a0 a1 μ)) := by
  refine sMt_of (own := 4) (bl := true) (by decide +kernel) rfl (Nat.le_of_ble_eq_true rfl) (fun r ρ h => ?_) ?_
  · obtain ⟨q, -, hq⟩ := Option.map_eq_some_iff.mp h
    cases hq
    exact Or.inr ⟨rfl, rfl⟩
  · unfold X4_hasHours
    show sOk 4 cX4_hasHours 2 1 true 0 [(0, vr 5 a0), (1, vi a1)] [] μ _
    refine sBk (lo' := [(0, vr 5 a0), (1, vi a1)]) (st' := [vi 9999, vi ((rI μ 5 a0 4) + a1)]) (μ' := μ) (pc' := 9) [(.aload_n 0, 0, 0, 0, 0), (.getfield 49, 4, 4, 0, 0), (.iload_n 1, 0, 0, 0, 0), (.iadd, 0, 0, 0, 0), (.sipush 9999, 0, 0, 9999, 0)] (by decide +kernel) rfl rfl ?_
    refine sIc_gt oI (off := 7) (tgt := 16) (by decide +kernel) (by decide) (fun _ => ?_) (fun _ => ?_)
    · refine sBk (lo' := [(0, vr 5 a0), (1, vi a1)]) (st' := [vi 0]) (μ' := μ) (pc' := 17) [(.iconst 0, 0, 0, 0, 0)] (by decide +kernel) rfl rfl ?_
      exact sRi (by decide +kernel) (fun _ => Or.inl rfl)
    · refine sBk (lo' := [(0, vr 5 a0), (1, vi a1)]) (st' := [vi 1]) (μ' := μ) (pc' := 13) [(.iconst 1, 0, 0, 1, 0)] (by decide +kernel) rfl rfl ?_
      refine sGt (off := 4) (tgt := 17) (by decide +kernel) (by decide) ?_
      exact sRi (by decide +kernel) (fun _ => Or.inr rfl)
/-! ClockRiver$River.runDown -/
def X4_runDown_L21 : Nat → Nat → Int32 → Int32 → sM → Option sM
  | 0, _, _, _, _ => none
  | n + 1, v0, v1, v2, μ =>
    if (rI μ 4 v0 0) ≤ v2 then
      some (wL μ 34 v0 0 ((rL μ 34 v0 0) + (Int32.toInt64 v1)))
    else
      if inb v2 6 = true then
        if inb v2 6 = true then
          if inb v2 6 = true then
            if inb v2 6 = true then
              X4_runDown_L21 n v0 (rI μ 32 v0 (ix v2)) (v2 + 1) (wI μ 31 v0 (ix v2) ((rI μ 31 v0 (ix v2)) + (v1 - (rI μ 32 v0 (ix v2)))))
            else none
          else none
        else none
      else none
theorem X4_runDown_L21_ok : ∀ (n : Nat) (v0 : Nat) (v1 : Int32) (v2 : Int32) (μ : sM), sOk 4 cX4_runDown 3 1 false 21 [(0, vr 5 v0), (1, vi v1), (2, vi v2)] [] μ (oV (X4_runDown_L21 n v0 v1 v2 μ)) := by
  intro n
  induction n with
  | zero =>
    intros
    exact sNo
  | succ n ih =>
    intro v0 v1 v2 μ
    unfold X4_runDown_L21
    refine sBk (lo' := [(0, vr 5 v0), (1, vi v1), (2, vi v2)]) (st' := [vi (rI μ 4 v0 0), vi v2]) (μ' := μ) (pc' := 29) [(.iload_n 2, 0, 0, 0, 0), (.aload_n 0, 0, 0, 0, 0), (.getfield 28, 4, 8, 0, 0), (.getfield 59, 3, 0, 0, 0)] (by decide +kernel) rfl rfl ?_
    refine sIc_ge oV (off := 42) (tgt := 71) (by decide +kernel) (by decide) (fun _ => ?_) (fun _ => ?_)
    · refine sBk (lo' := [(0, vr 5 v0), (1, vi v1), (2, vi v2)]) (st' := [vi 0, vr 34 v0, vi 0, vr 34 v0]) (μ' := μ) (pc' := 77) [(.aload_n 0, 0, 0, 0, 0), (.getfield 21, 4, 7, 0, 0), (.iconst 0, 0, 0, 0, 0), (.dup2, 0, 0, 0, 0)] (by decide +kernel) rfl rfl ?_
      refine sC_lal (n := 6) (j := 0) (by decide +kernel) (by decide +kernel) rfl rfl (by decide +kernel) ?_
      refine sBk (lo' := [(0, vr 5 v0), (1, vi v1), (2, vi v2)]) (st' := [vl ((rL μ 34 v0 0) + (Int32.toInt64 v1)), vi 0, vr 34 v0]) (μ' := μ) (pc' := 81) [(.iload_n 1, 0, 0, 0, 0), (.i2l, 0, 0, 0, 0), (.ladd, 0, 0, 0, 0)] (by decide +kernel) rfl rfl ?_
      refine sC_las (n := 6) (j := 0) (by decide +kernel) (by decide +kernel) rfl rfl (by decide +kernel) ?_
      exact sRv (by decide +kernel)
    · refine sBk (lo' := [(0, vr 5 v0), (1, vi v1), (2, vi v2)]) (st' := [vi v2, vr 31 v0, vi v2, vr 31 v0]) (μ' := μ) (pc' := 41) [(.aload_n 0, 0, 0, 0, 0), (.getfield 28, 4, 8, 0, 0), (.getfield 144, 3, 4, 0, 0), (.iload_n 2, 0, 0, 0, 0), (.dup2, 0, 0, 0, 0)] (by decide +kernel) rfl rfl ?_
      refine sS_ial oV rfl (n := 6) (j := (ix v2)) (by decide +kernel) rfl rfl rfl (fun _ => ?_)
      refine sBk (lo' := [(0, vr 5 v0), (1, vi v1), (2, vi v2)]) (st' := [vi v2, vr 32 v0, vi v1, vi (rI μ 31 v0 (ix v2)), vi v2, vr 31 v0]) (μ' := μ) (pc' := 51) [(.iload_n 1, 0, 0, 0, 0), (.aload_n 0, 0, 0, 0, 0), (.getfield 28, 4, 8, 0, 0), (.getfield 134, 3, 5, 0, 0), (.iload_n 2, 0, 0, 0, 0)] (by decide +kernel) rfl rfl ?_
      refine sS_ial oV rfl (n := 6) (j := (ix v2)) (by decide +kernel) rfl rfl rfl (fun _ => ?_)
      refine sBk (lo' := [(0, vr 5 v0), (1, vi v1), (2, vi v2)]) (st' := [vi ((rI μ 31 v0 (ix v2)) + (v1 - (rI μ 32 v0 (ix v2)))), vi v2, vr 31 v0]) (μ' := μ) (pc' := 54) [(.isub, 0, 0, 0, 0), (.iadd, 0, 0, 0, 0)] (by decide +kernel) rfl rfl ?_
      refine sS_ias oV rfl (n := 6) (j := (ix v2)) (by decide +kernel) rfl rfl rfl (fun _ => ?_)
      refine sBk (lo' := [(0, vr 5 v0), (1, vi v1), (2, vi v2)]) (st' := [vi v2, vr 32 v0]) (μ' := wI μ 31 v0 (ix v2) ((rI μ 31 v0 (ix v2)) + (v1 - (rI μ 32 v0 (ix v2))))) (pc' := 63) [(.aload_n 0, 0, 0, 0, 0), (.getfield 28, 4, 8, 0, 0), (.getfield 134, 3, 5, 0, 0), (.iload_n 2, 0, 0, 0, 0)] (by decide +kernel) rfl rfl ?_
      refine sS_ial oV rfl (n := 6) (j := (ix v2)) (by decide +kernel) rfl rfl rfl (fun _ => ?_)
      refine sBk (lo' := [(2, vi (v2 + 1)), (1, vi (rI μ 32 v0 (ix v2))), (0, vr 5 v0)]) (st' := []) (μ' := wI μ 31 v0 (ix v2) ((rI μ 31 v0 (ix v2)) + (v1 - (rI μ 32 v0 (ix v2))))) (pc' := 68) [(.istore_n 1, 0, 0, 0, 0), (.iinc 2 1, 0, 0, 1, 0)] (by decide +kernel) rfl rfl ?_
      refine sGt (off := (-47)) (tgt := 21) (by decide +kernel) (by decide) ?_
      refine sWk (lo' := [(0, vr 5 v0), (1, vi (rI μ 32 v0 (ix v2))), (2, vi (v2 + 1))]) [2, 1, 0] rfl ?_
      exact ih v0 (rI μ 32 v0 (ix v2)) (v2 + 1) (wI μ 31 v0 (ix v2) ((rI μ 31 v0 (ix v2)) + (v1 - (rI μ 32 v0 (ix v2)))))
def X4_runDown (a0 : Nat) (μ : sM) : Option sM :=
  X4_runDown_L21 fuN a0 (rI μ 5 a0 0) 0 (wL μ 34 a0 4 ((rL μ 34 a0 4) + (Int32.toInt64 (rI μ 5 a0 0))))
theorem tX4_runDown (a0 : Nat) (μ : sM) : sMt yX4_runDown cX4_runDown 3 none 1 [vr 5 a0] μ (oV (X4_runDown a0 μ)) := by
  refine sMt_of (own := 4) (bl := false) (by decide +kernel) rfl (Nat.le_of_ble_eq_true rfl) (fun r ρ h => ?_) ?_
  · obtain ⟨q, -, hq⟩ := Option.map_eq_some_iff.mp h
    cases hq
    exact rfl
  · unfold X4_runDown
    show sOk 4 cX4_runDown 3 1 false 0 [(0, vr 5 a0)] [] μ _
    refine sBk (lo' := [(1, vi (rI μ 5 a0 0)), (0, vr 5 a0)]) (st' := [vi 4, vr 34 a0, vi 4, vr 34 a0]) (μ' := μ) (pc' := 11) [(.aload_n 0, 0, 0, 0, 0), (.getfield 46, 4, 0, 0, 0), (.istore_n 1, 0, 0, 0, 0), (.aload_n 0, 0, 0, 0, 0), (.getfield 21, 4, 7, 0, 0), (.iconst 4, 0, 0, 4, 0), (.dup2, 0, 0, 0, 0)] (by decide +kernel) rfl rfl ?_
    refine sC_lal (n := 6) (j := 4) (by decide +kernel) (by decide +kernel) rfl rfl (by decide +kernel) ?_
    refine sBk (lo' := [(1, vi (rI μ 5 a0 0)), (0, vr 5 a0)]) (st' := [vl ((rL μ 34 a0 4) + (Int32.toInt64 (rI μ 5 a0 0))), vi 4, vr 34 a0]) (μ' := μ) (pc' := 18) [(.aload_n 0, 0, 0, 0, 0), (.getfield 46, 4, 0, 0, 0), (.i2l, 0, 0, 0, 0), (.ladd, 0, 0, 0, 0)] (by decide +kernel) rfl rfl ?_
    refine sC_las (n := 6) (j := 4) (by decide +kernel) (by decide +kernel) rfl rfl (by decide +kernel) ?_
    refine sBk (lo' := [(2, vi 0), (1, vi (rI μ 5 a0 0)), (0, vr 5 a0)]) (st' := []) (μ' := wL μ 34 a0 4 ((rL μ 34 a0 4) + (Int32.toInt64 (rI μ 5 a0 0)))) (pc' := 21) [(.iconst 0, 0, 0, 0, 0), (.istore_n 2, 0, 0, 0, 0)] (by decide +kernel) rfl rfl ?_
    refine sWk (lo' := [(0, vr 5 a0), (1, vi (rI μ 5 a0 0)), (2, vi 0)]) [2, 1, 0] rfl ?_
    exact X4_runDown_L21_ok fuN a0 (rI μ 5 a0 0) 0 (wL μ 34 a0 4 ((rL μ 34 a0 4) + (Int32.toInt64 (rI μ 5 a0 0))))
/-! ClockRiver$River.runUp -/
def X4_runUp_L30 : Nat → Nat → Int32 → Int32 → sM → Option sM
  | 0, _, _, _, _ => none
  | n + 1, v0, v1, v2, μ =>
    if v2 < 0 then
      some (wL μ 34 v0 2 ((rL μ 34 v0 2) + (Int32.toInt64 v1)))
    else
      if inb v2 6 = true then
        if inb v2 6 = true then
          if inb v2 6 = true then
            if inb v2 6 = true then
              X4_runUp_L30 n v0 (rI μ 32 v0 (ix v2)) (v2 + (-1)) (wI μ 31 v0 (ix v2) ((rI μ 31 v0 (ix v2)) + (v1 - (rI μ 32 v0 (ix v2)))))
            else none
          else none
        else none
      else none
theorem X4_runUp_L30_ok : ∀ (n : Nat) (v0 : Nat) (v1 : Int32) (v2 : Int32) (μ : sM), sOk 4 cX4_runUp 3 1 false 30 [(0, vr 5 v0), (1, vi v1), (2, vi v2)] [] μ (oV (X4_runUp_L30 n v0 v1 v2 μ)) := by
  intro n
  induction n with
  | zero =>
    intros
    exact sNo
  | succ n ih =>
    intro v0 v1 v2 μ
    unfold X4_runUp_L30
    refine sBk (lo' := [(0, vr 5 v0), (1, vi v1), (2, vi v2)]) (st' := [vi v2]) (μ' := μ) (pc' := 31) [(.iload_n 2, 0, 0, 0, 0)] (by decide +kernel) rfl rfl ?_
    refine sIf_lt oV (off := 42) (tgt := 73) (by decide +kernel) (by decide) (fun _ => ?_) (fun _ => ?_)
    · refine sBk (lo' := [(0, vr 5 v0), (1, vi v1), (2, vi v2)]) (st' := [vi 2, vr 34 v0, vi 2, vr 34 v0]) (μ' := μ) (pc' := 79) [(.aload_n 0, 0, 0, 0, 0), (.getfield 21, 4, 7, 0, 0), (.iconst 2, 0, 0, 2, 0), (.dup2, 0, 0, 0, 0)] (by decide +kernel) rfl rfl ?_
      refine sC_lal (n := 6) (j := 2) (by decide +kernel) (by decide +kernel) rfl rfl (by decide +kernel) ?_
      refine sBk (lo' := [(0, vr 5 v0), (1, vi v1), (2, vi v2)]) (st' := [vl ((rL μ 34 v0 2) + (Int32.toInt64 v1)), vi 2, vr 34 v0]) (μ' := μ) (pc' := 83) [(.iload_n 1, 0, 0, 0, 0), (.i2l, 0, 0, 0, 0), (.ladd, 0, 0, 0, 0)] (by decide +kernel) rfl rfl ?_
      refine sC_las (n := 6) (j := 2) (by decide +kernel) (by decide +kernel) rfl rfl (by decide +kernel) ?_
      exact sRv (by decide +kernel)
    · refine sBk (lo' := [(0, vr 5 v0), (1, vi v1), (2, vi v2)]) (st' := [vi v2, vr 31 v0, vi v2, vr 31 v0]) (μ' := μ) (pc' := 43) [(.aload_n 0, 0, 0, 0, 0), (.getfield 28, 4, 8, 0, 0), (.getfield 144, 3, 4, 0, 0), (.iload_n 2, 0, 0, 0, 0), (.dup2, 0, 0, 0, 0)] (by decide +kernel) rfl rfl ?_
      refine sS_ial oV rfl (n := 6) (j := (ix v2)) (by decide +kernel) rfl rfl rfl (fun _ => ?_)
      refine sBk (lo' := [(0, vr 5 v0), (1, vi v1), (2, vi v2)]) (st' := [vi v2, vr 32 v0, vi v1, vi (rI μ 31 v0 (ix v2)), vi v2, vr 31 v0]) (μ' := μ) (pc' := 53) [(.iload_n 1, 0, 0, 0, 0), (.aload_n 0, 0, 0, 0, 0), (.getfield 28, 4, 8, 0, 0), (.getfield 134, 3, 5, 0, 0), (.iload_n 2, 0, 0, 0, 0)] (by decide +kernel) rfl rfl ?_
      refine sS_ial oV rfl (n := 6) (j := (ix v2)) (by decide +kernel) rfl rfl rfl (fun _ => ?_)
      refine sBk (lo' := [(0, vr 5 v0), (1, vi v1), (2, vi v2)]) (st' := [vi ((rI μ 31 v0 (ix v2)) + (v1 - (rI μ 32 v0 (ix v2)))), vi v2, vr 31 v0]) (μ' := μ) (pc' := 56) [(.isub, 0, 0, 0, 0), (.iadd, 0, 0, 0, 0)] (by decide +kernel) rfl rfl ?_
      refine sS_ias oV rfl (n := 6) (j := (ix v2)) (by decide +kernel) rfl rfl rfl (fun _ => ?_)
      refine sBk (lo' := [(0, vr 5 v0), (1, vi v1), (2, vi v2)]) (st' := [vi v2, vr 32 v0]) (μ' := wI μ 31 v0 (ix v2) ((rI μ 31 v0 (ix v2)) + (v1 - (rI μ 32 v0 (ix v2))))) (pc' := 65) [(.aload_n 0, 0, 0, 0, 0), (.getfield 28, 4, 8, 0, 0), (.getfield 134, 3, 5, 0, 0), (.iload_n 2, 0, 0, 0, 0)] (by decide +kernel) rfl rfl ?_
      refine sS_ial oV rfl (n := 6) (j := (ix v2)) (by decide +kernel) rfl rfl rfl (fun _ => ?_)
      refine sBk (lo' := [(2, vi (v2 + (-1))), (1, vi (rI μ 32 v0 (ix v2))), (0, vr 5 v0)]) (st' := []) (μ' := wI μ 31 v0 (ix v2) ((rI μ 31 v0 (ix v2)) + (v1 - (rI μ 32 v0 (ix v2))))) (pc' := 70) [(.istore_n 1, 0, 0, 0, 0), (.iinc 2 (-1), 0, 0, (-1), 0)] (by decide +kernel) rfl rfl ?_
      refine sGt (off := (-40)) (tgt := 30) (by decide +kernel) (by decide) ?_
      refine sWk (lo' := [(0, vr 5 v0), (1, vi (rI μ 32 v0 (ix v2))), (2, vi (v2 + (-1)))]) [2, 1, 0] rfl ?_
      exact ih v0 (rI μ 32 v0 (ix v2)) (v2 + (-1)) (wI μ 31 v0 (ix v2) ((rI μ 31 v0 (ix v2)) + (v1 - (rI μ 32 v0 (ix v2)))))
def X4_runUp (a0 : Nat) (μ : sM) : Option sM :=
  X4_runUp_L30 fuN a0 (-(rI μ 5 a0 0)) ((rI μ 4 a0 0) - 1) (wL μ 34 a0 1 ((rL μ 34 a0 1) - (Int32.toInt64 (rI μ 5 a0 0))))
theorem tX4_runUp (a0 : Nat) (μ : sM) : sMt yX4_runUp cX4_runUp 3 none 1 [vr 5 a0] μ (oV (X4_runUp a0 μ)) := by
  refine sMt_of (own := 4) (bl := false) (by decide +kernel) rfl (Nat.le_of_ble_eq_true rfl) (fun r ρ h => ?_) ?_
  · obtain ⟨q, -, hq⟩ := Option.map_eq_some_iff.mp h
    cases hq
    exact rfl
  · unfold X4_runUp
    show sOk 4 cX4_runUp 3 1 false 0 [(0, vr 5 a0)] [] μ _
    refine sBk (lo' := [(1, vi (-(rI μ 5 a0 0))), (0, vr 5 a0)]) (st' := [vi 1, vr 34 a0, vi 1, vr 34 a0]) (μ' := μ) (pc' := 12) [(.aload_n 0, 0, 0, 0, 0), (.getfield 46, 4, 0, 0, 0), (.ineg, 0, 0, 0, 0), (.istore_n 1, 0, 0, 0, 0), (.aload_n 0, 0, 0, 0, 0), (.getfield 21, 4, 7, 0, 0), (.iconst 1, 0, 0, 1, 0), (.dup2, 0, 0, 0, 0)] (by decide +kernel) rfl rfl ?_
    refine sC_lal (n := 6) (j := 1) (by decide +kernel) (by decide +kernel) rfl rfl (by decide +kernel) ?_
    refine sBk (lo' := [(1, vi (-(rI μ 5 a0 0))), (0, vr 5 a0)]) (st' := [vl ((rL μ 34 a0 1) - (Int32.toInt64 (rI μ 5 a0 0))), vi 1, vr 34 a0]) (μ' := μ) (pc' := 19) [(.aload_n 0, 0, 0, 0, 0), (.getfield 46, 4, 0, 0, 0), (.i2l, 0, 0, 0, 0), (.lsub, 0, 0, 0, 0)] (by decide +kernel) rfl rfl ?_
    refine sC_las (n := 6) (j := 1) (by decide +kernel) (by decide +kernel) rfl rfl (by decide +kernel) ?_
    refine sBk (lo' := [(2, vi ((rI μ 4 a0 0) - 1)), (1, vi (-(rI μ 5 a0 0))), (0, vr 5 a0)]) (st' := []) (μ' := wL μ 34 a0 1 ((rL μ 34 a0 1) - (Int32.toInt64 (rI μ 5 a0 0)))) (pc' := 30) [(.aload_n 0, 0, 0, 0, 0), (.getfield 28, 4, 8, 0, 0), (.getfield 59, 3, 0, 0, 0), (.iconst 1, 0, 0, 1, 0), (.isub, 0, 0, 0, 0), (.istore_n 2, 0, 0, 0, 0)] (by decide +kernel) rfl rfl ?_
    refine sWk (lo' := [(0, vr 5 a0), (1, vi (-(rI μ 5 a0 0))), (2, vi ((rI μ 4 a0 0) - 1))]) [2, 1, 0] rfl ?_
    exact X4_runUp_L30_ok fuN a0 (-(rI μ 5 a0 0)) ((rI μ 4 a0 0) - 1) (wL μ 34 a0 1 ((rL μ 34 a0 1) - (Int32.toInt64 (rI μ 5 a0 0))))
/-! ClockRiver$River.slacken -/
def X4_slacken_J54 (v0 : Nat) (s0 : Int32) (s1 : Nat) (μ : sM) : Option sM :=
  some (wI (wI μ 5 s1 0 s0) 5 v0 5 (imx 0 ((rI μ 5 v0 5) - 1)))
theorem X4_slacken_J54_ok (v0 : Nat) (s0 : Int32) (s1 : Nat) (μ : sM) : sOk 4 cX4_slacken 2 1 false 54 [(0, vr 5 v0)] [vi s0, vr 5 s1] μ (oV (X4_slacken_J54 v0 s0 s1 μ)) := by
  unfold X4_slacken_J54
  refine sBk (lo' := [(0, vr 5 v0)]) (st' := [vi ((rI μ 5 v0 5) - 1), vi 0, vr 5 v0]) (μ' := wI μ 5 s1 0 s0) (pc' := 65) [(.putfield 46, 4, 0, 0, 0), (.aload_n 0, 0, 0, 0, 0), (.iconst 0, 0, 0, 0, 0), (.aload_n 0, 0, 0, 0, 0), (.getfield 52, 4, 5, 0, 0), (.iconst 1, 0, 0, 1, 0), (.isub, 0, 0, 0, 0)] (by decide +kernel) rfl rfl ?_
  refine sMax (idx := 103) (p1 := 1128) (by decide +kernel) (by decide) (Nat.le_of_ble_eq_true rfl) ?_
  refine sBk (lo' := [(0, vr 5 v0)]) (st' := []) (μ' := wI (wI μ 5 s1 0 s0) 5 v0 5 (imx 0 ((rI μ 5 v0 5) - 1))) (pc' := 71) [(.putfield 52, 4, 5, 0, 0)] (by decide +kernel) rfl rfl ?_
  exact sRv (by decide +kernel)
def X4_slacken_J22 (v0 : Nat) (s0 : Int32) (μ : sM) : Option sM :=
  if (rI μ 5 v0 0) < 0 then
    X4_slacken_J54 v0 (imn 0 ((rI μ 5 v0 0) + s0)) v0 μ
  else
    X4_slacken_J54 v0 (imx 0 ((rI μ 5 v0 0) - s0)) v0 μ
theorem X4_slacken_J22_ok (v0 : Nat) (s0 : Int32) (μ : sM) : sOk 4 cX4_slacken 2 1 false 22 [(0, vr 5 v0)] [vi s0] μ (oV (X4_slacken_J22 v0 s0 μ)) := by
  unfold X4_slacken_J22
  refine sBk (lo' := [(1, vi s0), (0, vr 5 v0)]) (st' := [vi (rI μ 5 v0 0), vr 5 v0]) (μ' := μ) (pc' := 28) [(.istore_n 1, 0, 0, 0, 0), (.aload_n 0, 0, 0, 0, 0), (.aload_n 0, 0, 0, 0, 0), (.getfield 46, 4, 0, 0, 0)] (by decide +kernel) rfl rfl ?_
  refine sIf_lt oV (off := 16) (tgt := 44) (by decide +kernel) (by decide) (fun _ => ?_) (fun _ => ?_)
  · refine sBk (lo' := [(1, vi s0), (0, vr 5 v0)]) (st' := [vi ((rI μ 5 v0 0) + s0), vi 0, vr 5 v0]) (μ' := μ) (pc' := 51) [(.iconst 0, 0, 0, 0, 0), (.aload_n 0, 0, 0, 0, 0), (.getfield 46, 4, 0, 0, 0), (.iload_n 1, 0, 0, 0, 0), (.iadd, 0, 0, 0, 0)] (by decide +kernel) rfl rfl ?_
    refine sMin (idx := 109) (p1 := 1129) (by decide +kernel) (by decide) (Nat.le_of_ble_eq_true rfl) ?_
    refine sWk (lo' := [(0, vr 5 v0)]) [1] rfl ?_
    exact X4_slacken_J54_ok v0 (imn 0 ((rI μ 5 v0 0) + s0)) v0 μ
  · refine sBk (lo' := [(1, vi s0), (0, vr 5 v0)]) (st' := [vi ((rI μ 5 v0 0) - s0), vi 0, vr 5 v0]) (μ' := μ) (pc' := 38) [(.iconst 0, 0, 0, 0, 0), (.aload_n 0, 0, 0, 0, 0), (.getfield 46, 4, 0, 0, 0), (.iload_n 1, 0, 0, 0, 0), (.isub, 0, 0, 0, 0)] (by decide +kernel) rfl rfl ?_
    refine sMax (idx := 103) (p1 := 1128) (by decide +kernel) (by decide) (Nat.le_of_ble_eq_true rfl) ?_
    refine sGt (off := 13) (tgt := 54) (by decide +kernel) (by decide) ?_
    refine sWk (lo' := [(0, vr 5 v0)]) [1] rfl ?_
    exact X4_slacken_J54_ok v0 (imx 0 ((rI μ 5 v0 0) - s0)) v0 μ
def X4_slacken (a0 : Nat) (μ : sM) : Option sM :=
  if (rI μ 5 a0 5) ≤ 0 then
    X4_slacken_J22 a0 (rI μ 5 a0 1) μ
  else
    X4_slacken_J22 a0 (((rI μ 5 a0 1) + 1) / 2) μ
theorem tX4_slacken (a0 : Nat) (μ : sM) : sMt yX4_slacken cX4_slacken 2 none 1 [vr 5 a0] μ (oV (X4_slacken a0 μ)) := by
  refine sMt_of (own := 4) (bl := false) (by decide +kernel) rfl (Nat.le_of_ble_eq_true rfl) (fun r ρ h => ?_) ?_
  · obtain ⟨q, -, hq⟩ := Option.map_eq_some_iff.mp h
    cases hq
    exact rfl
  · unfold X4_slacken
    show sOk 4 cX4_slacken 2 1 false 0 [(0, vr 5 a0)] [] μ _
    refine sBk (lo' := [(0, vr 5 a0)]) (st' := [vi (rI μ 5 a0 5)]) (μ' := μ) (pc' := 4) [(.aload_n 0, 0, 0, 0, 0), (.getfield 52, 4, 5, 0, 0)] (by decide +kernel) rfl rfl ?_
    refine sIf_le oV (off := 14) (tgt := 18) (by decide +kernel) (by decide) (fun _ => ?_) (fun _ => ?_)
    · refine sBk (lo' := [(0, vr 5 a0)]) (st' := [vi (rI μ 5 a0 1)]) (μ' := μ) (pc' := 22) [(.aload_n 0, 0, 0, 0, 0), (.getfield 9, 4, 1, 0, 0)] (by decide +kernel) rfl rfl ?_
      exact X4_slacken_J22_ok a0 (rI μ 5 a0 1) μ
    · refine sBk (lo' := [(0, vr 5 a0)]) (st' := [vi 2, vi ((rI μ 5 a0 1) + 1)]) (μ' := μ) (pc' := 14) [(.aload_n 0, 0, 0, 0, 0), (.getfield 9, 4, 1, 0, 0), (.iconst 1, 0, 0, 1, 0), (.iadd, 0, 0, 0, 0), (.iconst 2, 0, 0, 2, 0)] (by decide +kernel) rfl rfl ?_
      refine sC_idv (by decide +kernel) (by decide +kernel) ?_
      refine sGt (off := 7) (tgt := 22) (by decide +kernel) (by decide) ?_
      exact X4_slacken_J22_ok a0 (((rI μ 5 a0 1) + 1) / 2) μ
/-! ClockRiver$River.passHour -/
def X4_passHour_J65 (v0 : Nat) (μ : sM) : Option (Int32 × sM) :=
  bI (X3_spill v0 μ) fun x1 μ2 =>
    bI (X2_grind_32 v0 v0 (wL μ2 34 v0 3 ((rL μ 34 v0 3) + (Int32.toInt64 x1)))) fun x3 μ4 =>
      bV (X4_slacken v0 μ4) fun μ6 =>
        some (x3, wI μ6 5 v0 4 ((rI μ6 5 v0 4) + 1))
theorem X4_passHour_J65_ok (v0 : Nat) (μ : sM) : sOk 4 cX4_passHour 2 2 false 65 [(0, vr 5 v0)] [] μ (oI (X4_passHour_J65 v0 μ)) := by
  unfold X4_passHour_J65
  refine sBk (lo' := [(0, vr 5 v0)]) (st' := [vi 3, vr 34 v0, vi 3, vr 34 v0]) (μ' := μ) (pc' := 71) [(.aload_n 0, 0, 0, 0, 0), (.getfield 21, 4, 7, 0, 0), (.iconst 3, 0, 0, 3, 0), (.dup2, 0, 0, 0, 0)] (by decide +kernel) rfl rfl ?_
  refine sC_lal (n := 6) (j := 3) (by decide +kernel) (by decide +kernel) rfl rfl (by decide +kernel) ?_
  refine sBk (lo' := [(0, vr 5 v0)]) (st' := [vr 4 v0, vl (rL μ 34 v0 3), vi 3, vr 34 v0]) (μ' := μ) (pc' := 76) [(.aload_n 0, 0, 0, 0, 0), (.getfield 28, 4, 8, 0, 0)] (by decide +kernel) rfl rfl ?_
  refine sCvI oI rfl (ci := 3) (q := (4, v0)) (avs := []) (rest := [vl (rL μ 34 v0 3), vi 3, vr 34 v0]) (tX3_spill v0 μ) (by decide) (by decide +kernel) lk_4_131 yv_X3_spill rfl (by decide) rfl rfl rfl (Nat.le_of_ble_eq_true rfl) (fun x1 μ2 => ?_)
  refine sBk (lo' := [(0, vr 5 v0)]) (st' := [vl ((rL μ 34 v0 3) + (Int32.toInt64 x1)), vi 3, vr 34 v0]) (μ' := μ2) (pc' := 81) [(.i2l, 0, 0, 0, 0), (.ladd, 0, 0, 0, 0)] (by decide +kernel) rfl rfl ?_
  refine sC_las (n := 6) (j := 3) (by decide +kernel) (by decide +kernel) rfl rfl (by decide +kernel) ?_
  refine sBk (lo' := [(0, vr 5 v0)]) (st' := [vr 32 v0, vr 3 v0]) (μ' := wL μ2 34 v0 3 ((rL μ 34 v0 3) + (Int32.toInt64 x1))) (pc' := 93) [(.aload_n 0, 0, 0, 0, 0), (.getfield 35, 4, 9, 0, 0), (.aload_n 0, 0, 0, 0, 0), (.getfield 28, 4, 8, 0, 0), (.getfield 134, 3, 5, 0, 0)] (by decide +kernel) rfl rfl ?_
  refine sCvI oI rfl (ci := 2) (q := (3, v0)) (avs := [vr 32 v0]) (rest := []) (tX2_grind_32 v0 v0 (wL μ2 34 v0 3 ((rL μ 34 v0 3) + (Int32.toInt64 x1)))) (by decide) (by decide +kernel) lk_4_137 yv_X2_grind rfl (by decide) rfl rfl rfl (Nat.le_of_ble_eq_true rfl) (fun x3 μ4 => ?_)
  refine sBk (lo' := [(1, vi x3), (0, vr 5 v0)]) (st' := [vr 5 v0]) (μ' := μ4) (pc' := 98) [(.istore_n 1, 0, 0, 0, 0), (.aload_n 0, 0, 0, 0, 0)] (by decide +kernel) rfl rfl ?_
  refine sCvV oI rfl (ci := 4) (q := (5, v0)) (avs := []) (rest := []) (tX4_slacken v0 μ4) (by decide) (by decide +kernel) lk_4_141 yv_X4_slacken rfl (by decide) rfl rfl rfl (Nat.le_of_ble_eq_true rfl) (fun μ6 => ?_)
  refine sBk (lo' := [(1, vi x3), (0, vr 5 v0)]) (st' := [vi x3]) (μ' := wI μ6 5 v0 4 ((rI μ6 5 v0 4) + 1)) (pc' := 112) [(.aload_n 0, 0, 0, 0, 0), (.dup, 0, 0, 0, 0), (.getfield 49, 4, 4, 0, 0), (.iconst 1, 0, 0, 1, 0), (.iadd, 0, 0, 0, 0), (.putfield 49, 4, 4, 0, 0), (.iload_n 1, 0, 0, 0, 0)] (by decide +kernel) rfl rfl ?_
  exact sRi (by decide +kernel) (fun h => by cases h)
def X4_passHour_J25 (v0 : Nat) (μ : sM) : Option (Int32 × sM) :=
  if (rI μ 5 v0 6) = 0 then
    X4_passHour_J65 v0 μ
  else
    bV (X3_addEach v0 (rI μ 5 v0 2) μ) fun μ2 =>
      X4_passHour_J65 v0 (wL μ2 34 v0 5 ((rL μ2 34 v0 5) + (Int32.toInt64 ((rI μ2 5 v0 2) * (rI μ2 4 v0 0)))))
theorem X4_passHour_J25_ok (v0 : Nat) (μ : sM) : sOk 4 cX4_passHour 2 2 false 25 [(0, vr 5 v0)] [] μ (oI (X4_passHour_J25 v0 μ)) := by
  unfold X4_passHour_J25
  refine sBk (lo' := [(0, vr 5 v0)]) (st' := [vi (rI μ 5 v0 6)]) (μ' := μ) (pc' := 29) [(.aload_n 0, 0, 0, 0, 0), (.getfield 55, 4, 6, 0, 0)] (by decide +kernel) rfl rfl ?_
  refine sIf_eq oI (off := 36) (tgt := 65) (by decide +kernel) (by decide) (fun _ => ?_) (fun _ => ?_)
  · exact X4_passHour_J65_ok v0 μ
  · refine sBk (lo' := [(0, vr 5 v0)]) (st' := [vi (rI μ 5 v0 2), vr 4 v0]) (μ' := μ) (pc' := 40) [(.aload_n 0, 0, 0, 0, 0), (.getfield 28, 4, 8, 0, 0), (.aload_n 0, 0, 0, 0, 0), (.getfield 15, 4, 2, 0, 0)] (by decide +kernel) rfl rfl ?_
    refine sCvV oI rfl (ci := 3) (q := (4, v0)) (avs := [vi (rI μ 5 v0 2)]) (rest := []) (tX3_addEach v0 (rI μ 5 v0 2) μ) (by decide) (by decide +kernel) lk_4_128 yv_X3_addEach rfl (by decide) rfl rfl rfl (Nat.le_of_ble_eq_true rfl) (fun μ2 => ?_)
    refine sBk (lo' := [(0, vr 5 v0)]) (st' := [vi 5, vr 34 v0, vi 5, vr 34 v0]) (μ' := μ2) (pc' := 49) [(.aload_n 0, 0, 0, 0, 0), (.getfield 21, 4, 7, 0, 0), (.iconst 5, 0, 0, 5, 0), (.dup2, 0, 0, 0, 0)] (by decide +kernel) rfl rfl ?_
    refine sC_lal (n := 6) (j := 5) (by decide +kernel) (by decide +kernel) rfl rfl (by decide +kernel) ?_
    refine sBk (lo' := [(0, vr 5 v0)]) (st' := [vl ((rL μ2 34 v0 5) + (Int32.toInt64 ((rI μ2 5 v0 2) * (rI μ2 4 v0 0)))), vi 5, vr 34 v0]) (μ' := μ2) (pc' := 64) [(.aload_n 0, 0, 0, 0, 0), (.getfield 15, 4, 2, 0, 0), (.aload_n 0, 0, 0, 0, 0), (.getfield 28, 4, 8, 0, 0), (.getfield 59, 3, 0, 0, 0), (.imul, 0, 0, 0, 0), (.i2l, 0, 0, 0, 0), (.ladd, 0, 0, 0, 0)] (by decide +kernel) rfl rfl ?_
    refine sC_las (n := 6) (j := 5) (by decide +kernel) (by decide +kernel) rfl rfl (by decide +kernel) ?_
    exact X4_passHour_J65_ok v0 (wL μ2 34 v0 5 ((rL μ2 34 v0 5) + (Int32.toInt64 ((rI μ2 5 v0 2) * (rI μ2 4 v0 0)))))
def X4_passHour (a0 : Nat) (μ : sM) : Option (Int32 × sM) :=
  bV (X3_letPass a0 μ) fun μ2 =>
    if (rI μ2 5 a0 0) < 0 then
      bV (X4_runUp a0 μ2) fun μ4 =>
        X4_passHour_J25 a0 μ4
    else
      bV (X4_runDown a0 μ2) fun μ6 =>
        X4_passHour_J25 a0 μ6
theorem tX4_passHour (a0 : Nat) (μ : sM) : sMt yX4_passHour cX4_passHour 2 (some .int) 2 [vr 5 a0] μ (oI (X4_passHour a0 μ)) := by
  refine sMt_of (own := 4) (bl := false) (by decide +kernel) rfl (Nat.le_of_ble_eq_true rfl) (fun r ρ h => ?_) ?_
  · obtain ⟨q, -, hq⟩ := Option.map_eq_some_iff.mp h
    cases hq
    exact Or.inl rfl
  · unfold X4_passHour
    show sOk 4 cX4_passHour 2 2 false 0 [(0, vr 5 a0)] [] μ _
    refine sBk (lo' := [(0, vr 5 a0)]) (st' := [vr 4 a0]) (μ' := μ) (pc' := 4) [(.aload_n 0, 0, 0, 0, 0), (.getfield 28, 4, 8, 0, 0)] (by decide +kernel) rfl rfl ?_
    refine sCvV oI rfl (ci := 3) (q := (4, a0)) (avs := []) (rest := []) (tX3_letPass a0 μ) (by decide) (by decide +kernel) lk_4_119 yv_X3_letPass rfl (by decide) rfl rfl rfl (Nat.le_of_ble_eq_true rfl) (fun μ2 => ?_)
    refine sBk (lo' := [(0, vr 5 a0)]) (st' := [vi (rI μ2 5 a0 0)]) (μ' := μ2) (pc' := 11) [(.aload_n 0, 0, 0, 0, 0), (.getfield 46, 4, 0, 0, 0)] (by decide +kernel) rfl rfl ?_
    refine sIf_lt oI (off := 10) (tgt := 21) (by decide +kernel) (by decide) (fun _ => ?_) (fun _ => ?_)
    · refine sBk (lo' := [(0, vr 5 a0)]) (st' := [vr 5 a0]) (μ' := μ2) (pc' := 22) [(.aload_n 0, 0, 0, 0, 0)] (by decide +kernel) rfl rfl ?_
      refine sCvV oI rfl (ci := 4) (q := (5, a0)) (avs := []) (rest := []) (tX4_runUp a0 μ2) (by decide) (by decide +kernel) lk_4_125 yv_X4_runUp rfl (by decide) rfl rfl rfl (Nat.le_of_ble_eq_true rfl) (fun μ4 => ?_)
      exact X4_passHour_J25_ok a0 μ4
    · refine sBk (lo' := [(0, vr 5 a0)]) (st' := [vr 5 a0]) (μ' := μ2) (pc' := 15) [(.aload_n 0, 0, 0, 0, 0)] (by decide +kernel) rfl rfl ?_
      refine sCvV oI rfl (ci := 4) (q := (5, a0)) (avs := []) (rest := []) (tX4_runDown a0 μ2) (by decide) (by decide +kernel) lk_4_122 yv_X4_runDown rfl (by decide) rfl rfl rfl (Nat.le_of_ble_eq_true rfl) (fun μ6 => ?_)
      refine sGt (off := 7) (tgt := 25) (by decide +kernel) (by decide) ?_
      exact X4_passHour_J25_ok a0 μ6
/-! ClockRiver$River.passHours -/
def X4_passHours_L4 : Nat → Nat → Int32 → Int32 → Int32 → sM → Option (Int32 × sM)
  | 0, _, _, _, _, _ => none
  | n + 1, v0, v1, v2, v3, μ =>
    if v1 ≤ v3 then
      some (v2, μ)
    else
      bI (X4_passHour v0 μ) fun x1 μ2 =>
        X4_passHours_L4 n v0 v1 (v2 + x1) (v3 + 1) μ2
theorem X4_passHours_L4_ok : ∀ (n : Nat) (v0 : Nat) (v1 : Int32) (v2 : Int32) (v3 : Int32) (μ : sM), sOk 4 cX4_passHours 4 3 false 4 [(0, vr 5 v0), (1, vi v1), (2, vi v2), (3, vi v3)] [] μ (oI (X4_passHours_L4 n v0 v1 v2 v3 μ)) := by
  intro n
  induction n with
  | zero =>
    intros
    exact sNo
  | succ n ih =>
    intro v0 v1 v2 v3 μ
    unfold X4_passHours_L4
    refine sBk (lo' := [(0, vr 5 v0), (1, vi v1), (2, vi v2), (3, vi v3)]) (st' := [vi v1, vi v3]) (μ' := μ) (pc' := 6) [(.iload_n 3, 0, 0, 0, 0), (.iload_n 1, 0, 0, 0, 0)] (by decide +kernel) rfl rfl ?_
    refine sIc_ge oI (off := 16) (tgt := 22) (by decide +kernel) (by decide) (fun _ => ?_) (fun _ => ?_)
    · refine sBk (lo' := [(0, vr 5 v0), (1, vi v1), (2, vi v2), (3, vi v3)]) (st' := [vi v2]) (μ' := μ) (pc' := 23) [(.iload_n 2, 0, 0, 0, 0)] (by decide +kernel) rfl rfl ?_
      exact sRi (by decide +kernel) (fun h => by cases h)
    · refine sBk (lo' := [(0, vr 5 v0), (1, vi v1), (2, vi v2), (3, vi v3)]) (st' := [vr 5 v0, vi v2]) (μ' := μ) (pc' := 11) [(.iload_n 2, 0, 0, 0, 0), (.aload_n 0, 0, 0, 0, 0)] (by decide +kernel) rfl rfl ?_
      refine sCvI oI rfl (ci := 4) (q := (5, v0)) (avs := []) (rest := [vi v2]) (tX4_passHour v0 μ) (by decide) (by decide +kernel) lk_4_116 yv_X4_passHour rfl (by decide) rfl rfl rfl (Nat.le_of_ble_eq_true rfl) (fun x1 μ2 => ?_)
      refine sBk (lo' := [(3, vi (v3 + 1)), (2, vi (v2 + x1)), (0, vr 5 v0), (1, vi v1)]) (st' := []) (μ' := μ2) (pc' := 19) [(.iadd, 0, 0, 0, 0), (.istore_n 2, 0, 0, 0, 0), (.iinc 3 1, 0, 0, 1, 0)] (by decide +kernel) rfl rfl ?_
      refine sGt (off := (-15)) (tgt := 4) (by decide +kernel) (by decide) ?_
      refine sWk (lo' := [(0, vr 5 v0), (1, vi v1), (2, vi (v2 + x1)), (3, vi (v3 + 1))]) [2, 3, 1, 0] rfl ?_
      exact ih v0 v1 (v2 + x1) (v3 + 1) μ2
def X4_passHours (a0 : Nat) (a1 : Int32) (μ : sM) : Option (Int32 × sM) :=
  X4_passHours_L4 fuN a0 a1 0 0 μ
theorem tX4_passHours (a0 : Nat) (a1 : Int32) (μ : sM) : sMt yX4_passHours cX4_passHours 4 (some .int) 3 [vr 5 a0, vi a1] μ (oI (X4_passHours a0 a1 μ)) := by
  refine sMt_of (own := 4) (bl := false) (by decide +kernel) rfl (Nat.le_of_ble_eq_true rfl) (fun r ρ h => ?_) ?_
  · obtain ⟨q, -, hq⟩ := Option.map_eq_some_iff.mp h
    cases hq
    exact Or.inl rfl
  · unfold X4_passHours
    show sOk 4 cX4_passHours 4 3 false 0 [(0, vr 5 a0), (1, vi a1)] [] μ _
    refine sBk (lo' := [(3, vi 0), (2, vi 0), (0, vr 5 a0), (1, vi a1)]) (st' := []) (μ' := μ) (pc' := 4) [(.iconst 0, 0, 0, 0, 0), (.istore_n 2, 0, 0, 0, 0), (.iconst 0, 0, 0, 0, 0), (.istore_n 3, 0, 0, 0, 0)] (by decide +kernel) rfl rfl ?_
    refine sWk (lo' := [(0, vr 5 a0), (1, vi a1), (2, vi 0), (3, vi 0)]) [2, 3, 1, 0] rfl ?_
    exact X4_passHours_L4_ok fuN a0 a1 0 0 μ
/-! ClockRiver$River.isLawDay -/
def X4_isLawDay (a0 : Nat) (μ : sM) : Option (Int32 × sM) :=
  if (irm ((rI μ 5 a0 4) / 24) 7) = 6 then
    some (1, μ)
  else
    some (0, μ)
theorem tX4_isLawDay (a0 : Nat) (μ : sM) : sMt yX4_isLawDay cX4_isLawDay 1 (some .boolean) 1 [vr 5 a0] μ (oI (X4_isLawDay a0 μ)) := by
  refine sMt_of (own := 4) (bl := true) (by decide +kernel) rfl (Nat.le_of_ble_eq_true rfl) (fun r ρ h => ?_) ?_
  · obtain ⟨q, -, hq⟩ := Option.map_eq_some_iff.mp h
    cases hq
    exact Or.inr ⟨rfl, rfl⟩
  · unfold X4_isLawDay
    show sOk 4 cX4_isLawDay 1 1 true 0 [(0, vr 5 a0)] [] μ _
    refine sBk (lo' := [(0, vr 5 a0)]) (st' := [vi 24, vi (rI μ 5 a0 4)]) (μ' := μ) (pc' := 6) [(.aload_n 0, 0, 0, 0, 0), (.getfield 49, 4, 4, 0, 0), (.bipush 24, 0, 0, 24, 0)] (by decide +kernel) rfl rfl ?_
    refine sC_idv (by decide +kernel) (by decide +kernel) ?_
    refine sBk (lo' := [(0, vr 5 a0)]) (st' := [vi 7, vi ((rI μ 5 a0 4) / 24)]) (μ' := μ) (pc' := 9) [(.bipush 7, 0, 0, 7, 0)] (by decide +kernel) rfl rfl ?_
    refine sC_irm (by decide +kernel) (by decide +kernel) ?_
    refine sBk (lo' := [(0, vr 5 a0)]) (st' := [vi 6, vi (irm ((rI μ 5 a0 4) / 24) 7)]) (μ' := μ) (pc' := 12) [(.bipush 6, 0, 0, 6, 0)] (by decide +kernel) rfl rfl ?_
    refine sIc_ne oI (off := 7) (tgt := 19) (by decide +kernel) (by decide) (fun _ => ?_) (fun _ => ?_)
    · refine sBk (lo' := [(0, vr 5 a0)]) (st' := [vi 0]) (μ' := μ) (pc' := 20) [(.iconst 0, 0, 0, 0, 0)] (by decide +kernel) rfl rfl ?_
      exact sRi (by decide +kernel) (fun _ => Or.inl rfl)
    · refine sBk (lo' := [(0, vr 5 a0)]) (st' := [vi 1]) (μ' := μ) (pc' := 16) [(.iconst 1, 0, 0, 1, 0)] (by decide +kernel) rfl rfl ?_
      refine sGt (off := 4) (tgt := 20) (by decide +kernel) (by decide) ?_
      exact sRi (by decide +kernel) (fun _ => Or.inr rfl)
/-! ClockRiver$River.letWind -/
def X4_letWind_J40 (v0 : Nat) (v1 : Int32) (s0 : Int32) (s1 : Nat) (μ : sM) : Option sM :=
  bV (X10_pay v0 v1 (wI μ 5 s1 0 s0)) fun μ2 =>
    some μ2
theorem X4_letWind_J40_ok (v0 : Nat) (v1 : Int32) (s0 : Int32) (s1 : Nat) (μ : sM) : sOk 4 cX4_letWind 4 2 false 40 [(0, vr 5 v0), (1, vi v1)] [vi s0, vr 5 s1] μ (oV (X4_letWind_J40 v0 v1 s0 s1 μ)) := by
  unfold X4_letWind_J40
  refine sBk (lo' := [(0, vr 5 v0), (1, vi v1)]) (st' := [vi v1, vr 11 v0]) (μ' := wI μ 5 s1 0 s0) (pc' := 48) [(.putfield 46, 4, 0, 0, 0), (.aload_n 0, 0, 0, 0, 0), (.getfield 42, 4, 10, 0, 0), (.iload_n 1, 0, 0, 0, 0)] (by decide +kernel) rfl rfl ?_
  refine sCvV oV rfl (ci := 10) (q := (11, v0)) (avs := [vi v1]) (rest := []) (tX10_pay v0 v1 (wI μ 5 s1 0 s0)) (by decide) (by decide +kernel) lk_4_112 yv_X10_pay rfl (by decide) rfl rfl rfl (Nat.le_of_ble_eq_true rfl) (fun μ2 => ?_)
  exact sRv (by decide +kernel)
def X4_letWind (a0 : Nat) (a1 : Int32) (a2 : Int32) (μ : sM) : Option sM :=
  if inb a1 6 = true then
    if a2 = 0 then
      X4_letWind_J40 a0 a1 (imn 60 ((rI μ 5 a0 0) + (rI μ 51 a0 (ix a1)))) a0 μ
    else
      X4_letWind_J40 a0 a1 (imx (-60) ((rI μ 5 a0 0) - (rI μ 51 a0 (ix a1)))) a0 μ
  else none
theorem tX4_letWind (a0 : Nat) (a1 : Int32) (a2 : Int32) (μ : sM) : sMt yX4_letWind cX4_letWind 4 none 2 [vr 5 a0, vi a1, vi a2] μ (oV (X4_letWind a0 a1 a2 μ)) := by
  refine sMt_of (own := 4) (bl := false) (by decide +kernel) rfl (Nat.le_of_ble_eq_true rfl) (fun r ρ h => ?_) ?_
  · obtain ⟨q, -, hq⟩ := Option.map_eq_some_iff.mp h
    cases hq
    exact rfl
  · unfold X4_letWind
    show sOk 4 cX4_letWind 4 2 false 0 [(0, vr 5 a0), (1, vi a1), (2, vi a2)] [] μ _
    refine sBk (lo' := [(0, vr 5 a0), (1, vi a1), (2, vi a2)]) (st' := [vi a1, vr 51 a0]) (μ' := μ) (pc' := 8) [(.aload_n 0, 0, 0, 0, 0), (.getfield 42, 4, 10, 0, 0), (.getfield 99, 10, 2, 0, 0), (.iload_n 1, 0, 0, 0, 0)] (by decide +kernel) rfl rfl ?_
    refine sS_ial oV rfl (n := 6) (j := (ix a1)) (by decide +kernel) rfl rfl rfl (fun _ => ?_)
    refine sBk (lo' := [(3, vi (rI μ 51 a0 (ix a1))), (0, vr 5 a0), (1, vi a1), (2, vi a2)]) (st' := [vi a2, vr 5 a0]) (μ' := μ) (pc' := 12) [(.istore_n 3, 0, 0, 0, 0), (.aload_n 0, 0, 0, 0, 0), (.iload_n 2, 0, 0, 0, 0)] (by decide +kernel) rfl rfl ?_
    refine sIf_eq oV (off := 17) (tgt := 29) (by decide +kernel) (by decide) (fun _ => ?_) (fun _ => ?_)
    · refine sBk (lo' := [(3, vi (rI μ 51 a0 (ix a1))), (0, vr 5 a0), (1, vi a1), (2, vi a2)]) (st' := [vi ((rI μ 5 a0 0) + (rI μ 51 a0 (ix a1))), vi 60, vr 5 a0]) (μ' := μ) (pc' := 37) [(.bipush 60, 0, 0, 60, 0), (.aload_n 0, 0, 0, 0, 0), (.getfield 46, 4, 0, 0, 0), (.iload_n 3, 0, 0, 0, 0), (.iadd, 0, 0, 0, 0)] (by decide +kernel) rfl rfl ?_
      refine sMin (idx := 109) (p1 := 1129) (by decide +kernel) (by decide) (Nat.le_of_ble_eq_true rfl) ?_
      refine sWk (lo' := [(0, vr 5 a0), (1, vi a1)]) [1, 2] rfl ?_
      exact X4_letWind_J40_ok a0 a1 (imn 60 ((rI μ 5 a0 0) + (rI μ 51 a0 (ix a1)))) a0 μ
    · refine sBk (lo' := [(3, vi (rI μ 51 a0 (ix a1))), (0, vr 5 a0), (1, vi a1), (2, vi a2)]) (st' := [vi ((rI μ 5 a0 0) - (rI μ 51 a0 (ix a1))), vi (-60), vr 5 a0]) (μ' := μ) (pc' := 23) [(.bipush (-60), 0, 0, (-60), 0), (.aload_n 0, 0, 0, 0, 0), (.getfield 46, 4, 0, 0, 0), (.iload_n 3, 0, 0, 0, 0), (.isub, 0, 0, 0, 0)] (by decide +kernel) rfl rfl ?_
      refine sMax (idx := 103) (p1 := 1128) (by decide +kernel) (by decide) (Nat.le_of_ble_eq_true rfl) ?_
      refine sGt (off := 14) (tgt := 40) (by decide +kernel) (by decide) ?_
      refine sWk (lo' := [(0, vr 5 a0), (1, vi a1)]) [1, 2] rfl ?_
      exact X4_letWind_J40_ok a0 a1 (imx (-60) ((rI μ 5 a0 0) - (rI μ 51 a0 (ix a1)))) a0 μ
