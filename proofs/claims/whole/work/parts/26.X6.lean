theorem lk_6_109 : Cond.methodLink (kRn 6) 109 yX6_isLike ∈ sT := sT_in (n := 823) (by decide +kernel) rfl
theorem lk_6_45 : Cond.methodLink (kRn 6) 45 yX6_addToken ∈ sT := sT_in (n := 756) (by decide +kernel) rfl
theorem lk_6_58 : Cond.methodLink (kRn 6) 58 yX6_fail ∈ sT := sT_in (n := 877) (by decide +kernel) rfl
theorem lk_6_62 : Cond.methodLink (kRn 6) 62 yX6_failToStand ∈ sT := sT_in (n := 873) (by decide +kernel) rfl
theorem lk_6_66 : Cond.methodLink (kRn 6) 66 yX6_advance ∈ sT := sT_in (n := 878) (by decide +kernel) rfl
theorem lk_6_74 : Cond.methodLink (kRn 6) 74 yX6_isBlank ∈ sT := sT_in (n := 760) (by decide +kernel) rfl
theorem lk_6_77 : Cond.methodLink (kRn 6) 77 yX6_isLetter ∈ sT := sT_in (n := 763) (by decide +kernel) rfl
theorem lk_6_80 : Cond.methodLink (kRn 6) 80 yX6_addWord ∈ sT := sT_in (n := 766) (by decide +kernel) rfl
theorem lk_6_83 : Cond.methodLink (kRn 6) 83 yX6_isDigit ∈ sT := sT_in (n := 828) (by decide +kernel) rfl
theorem lk_6_86 : Cond.methodLink (kRn 6) 86 yX6_addNumber ∈ sT := sT_in (n := 831) (by decide +kernel) rfl
theorem lk_6_89 : Cond.methodLink (kRn 6) 89 yX6_addSign ∈ sT := sT_in (n := 837) (by decide +kernel) rfl
theorem lk_6_92 : Cond.methodLink (kRn 6) 92 yX6_kindOfWord ∈ sT := sT_in (n := 770) (by decide +kernel) rfl
theorem ys_X6_isBlank : yS yX6_isBlank cX6_isBlank 1 (some .boolean) 1 := ⟨⟨sT_in (n := 762) (by decide +kernel) rfl, sT_in (n := 144) (by decide +kernel) rfl, by decide +kernel, by decide⟩, sT_in (n := 761) (by decide +kernel) rfl⟩
theorem ys_X6_isDigit : yS yX6_isDigit cX6_isDigit 1 (some .boolean) 1 := ⟨⟨sT_in (n := 830) (by decide +kernel) rfl, sT_in (n := 144) (by decide +kernel) rfl, by decide +kernel, by decide⟩, sT_in (n := 829) (by decide +kernel) rfl⟩
theorem ys_X6_isLetter : yS yX6_isLetter cX6_isLetter 1 (some .boolean) 1 := ⟨⟨sT_in (n := 765) (by decide +kernel) rfl, sT_in (n := 144) (by decide +kernel) rfl, by decide +kernel, by decide⟩, sT_in (n := 764) (by decide +kernel) rfl⟩
theorem yv_X6_addNumber : yV yX6_addNumber cX6_addNumber 5 (some .int) 2 := ⟨⟨sT_in (n := 834) (by decide +kernel) rfl, sT_in (n := 144) (by decide +kernel) rfl, by decide +kernel, by decide⟩, sT_in (n := 833) (by decide +kernel) rfl, sT_in (n := 7) (by decide +kernel) rfl⟩
theorem yv_X6_addSign : yV yX6_addSign cX6_addSign 5 (some .int) 2 := ⟨⟨sT_in (n := 840) (by decide +kernel) rfl, sT_in (n := 144) (by decide +kernel) rfl, by decide +kernel, by decide⟩, sT_in (n := 839) (by decide +kernel) rfl, sT_in (n := 8) (by decide +kernel) rfl⟩
theorem yv_X6_addToken : yV yX6_addToken cX6_addToken 5 (some .int) 2 := ⟨⟨sT_in (n := 759) (by decide +kernel) rfl, sT_in (n := 144) (by decide +kernel) rfl, by decide +kernel, by decide⟩, sT_in (n := 758) (by decide +kernel) rfl, sT_in (n := 3) (by decide +kernel) rfl⟩
theorem yv_X6_addWord : yV yX6_addWord cX6_addWord 5 (some .int) 2 := ⟨⟨sT_in (n := 769) (by decide +kernel) rfl, sT_in (n := 144) (by decide +kernel) rfl, by decide +kernel, by decide⟩, sT_in (n := 768) (by decide +kernel) rfl, sT_in (n := 4) (by decide +kernel) rfl⟩
theorem yv_X6_advance : yV yX6_advance cX6_advance 1 none 0 := ⟨⟨sT_in (n := 868) (by decide +kernel) rfl, sT_in (n := 144) (by decide +kernel) rfl, by decide +kernel, by decide⟩, sT_in (n := 866) (by decide +kernel) rfl, sT_in (n := 867) (by decide +kernel) rfl⟩
theorem yv_X6_fail : yV yX6_fail cX6_fail 2 (some .boolean) 1 := ⟨⟨sT_in (n := 864) (by decide +kernel) rfl, sT_in (n := 144) (by decide +kernel) rfl, by decide +kernel, by decide⟩, sT_in (n := 862) (by decide +kernel) rfl, sT_in (n := 863) (by decide +kernel) rfl⟩
theorem yv_X6_failToStand : yV yX6_failToStand cX6_failToStand 1 (some .boolean) 0 := ⟨⟨sT_in (n := 876) (by decide +kernel) rfl, sT_in (n := 144) (by decide +kernel) rfl, by decide +kernel, by decide⟩, sT_in (n := 874) (by decide +kernel) rfl, sT_in (n := 875) (by decide +kernel) rfl⟩
theorem yv_X6_isLike : yV yX6_isLike cX6_isLike 5 (some .boolean) 3 := ⟨⟨sT_in (n := 826) (by decide +kernel) rfl, sT_in (n := 144) (by decide +kernel) rfl, by decide +kernel, by decide⟩, sT_in (n := 825) (by decide +kernel) rfl, sT_in (n := 6) (by decide +kernel) rfl⟩
theorem yv_X6_kindOfWord : yV yX6_kindOfWord cX6_kindOfWord 6 (some .int) 2 := ⟨⟨sT_in (n := 773) (by decide +kernel) rfl, sT_in (n := 144) (by decide +kernel) rfl, by decide +kernel, by decide⟩, sT_in (n := 772) (by decide +kernel) rfl, sT_in (n := 5) (by decide +kernel) rfl⟩
/-! ClockRiver$Tape.append -/
def X6_append_L3 : Nat → Int32 → Int32 → sM → Option sM
  | 0, _, _, _ => none
  | n + 1, v1, v2, μ =>
    if v2 < 0 then
      some μ
    else
      if 900 ≤ (rI μ 7 0 1) then
        some μ
      else
        if inb (rI μ 7 0 1) 900 = true then
          X6_append_L3 n v1 (v2 + (-8)) (wI (wI μ 35 0 (ix (rI μ 7 0 1)) (Int8.toInt32 (Int32.toInt8 (Int8.toInt32 (Int32.toInt8 (isr v1 v2)))))) 7 0 1 ((rI μ 7 0 1) + 1))
        else none
theorem X6_append_L3_ok : ∀ (n : Nat) (v1 : Int32) (v2 : Int32) (μ : sM), sOk 6 cX6_append 3 1 false 3 [(0, vr 7 0), (1, vi v1), (2, vi v2)] [] μ (oV (X6_append_L3 n v1 v2 μ)) := by
  intro n
  induction n with
  | zero =>
    intros
    exact sNo
  | succ n ih =>
    intro v1 v2 μ
    unfold X6_append_L3
    refine sBk (lo' := [(0, vr 7 0), (1, vi v1), (2, vi v2)]) (st' := [vi v2]) (μ' := μ) (pc' := 4) [(.iload_n 2, 0, 0, 0, 0)] (by decide +kernel) rfl rfl ?_
    refine sIf_lt oV (off := 42) (tgt := 46) (by decide +kernel) (by decide) (fun _ => ?_) (fun _ => ?_)
    · exact sRv (by decide +kernel)
    · refine sBk (lo' := [(0, vr 7 0), (1, vi v1), (2, vi v2)]) (st' := [vi 900, vi (rI μ 7 0 1)]) (μ' := μ) (pc' := 14) [(.aload_n 0, 0, 0, 0, 0), (.getfield 33, 6, 1, 0, 0), (.sipush 900, 0, 0, 900, 0)] (by decide +kernel) rfl rfl ?_
      refine sIc_ge oV (off := 32) (tgt := 46) (by decide +kernel) (by decide) (fun _ => ?_) (fun _ => ?_)
      · exact sRv (by decide +kernel)
      · refine sBk (lo' := [(0, vr 7 0), (1, vi v1), (2, vi v2)]) (st' := [vi (Int8.toInt32 (Int32.toInt8 (isr v1 v2))), vi (rI μ 7 0 1), vr 35 0]) (μ' := μ) (pc' := 29) [(.aload_n 0, 0, 0, 0, 0), (.getfield 9, 6, 0, 0, 0), (.aload_n 0, 0, 0, 0, 0), (.getfield 33, 6, 1, 0, 0), (.iload_n 1, 0, 0, 0, 0), (.iload_n 2, 0, 0, 0, 0), (.ishr, 0, 0, 0, 0), (.i2b, 0, 0, 0, 0)] (by decide +kernel) rfl rfl ?_
        refine sS_bas oV rfl (n := 900) (j := (ix (rI μ 7 0 1))) (by decide +kernel) rfl rfl rfl (fun _ => ?_)
        refine sBk (lo' := [(2, vi (v2 + (-8))), (0, vr 7 0), (1, vi v1)]) (st' := []) (μ' := wI (wI μ 35 0 (ix (rI μ 7 0 1)) (Int8.toInt32 (Int32.toInt8 (Int8.toInt32 (Int32.toInt8 (isr v1 v2)))))) 7 0 1 ((rI μ 7 0 1) + 1)) (pc' := 43) [(.aload_n 0, 0, 0, 0, 0), (.dup, 0, 0, 0, 0), (.getfield 33, 6, 1, 0, 0), (.iconst 1, 0, 0, 1, 0), (.iadd, 0, 0, 0, 0), (.putfield 33, 6, 1, 0, 0), (.iinc 2 (-8), 0, 0, (-8), 0)] (by decide +kernel) rfl rfl ?_
        refine sGt (off := (-40)) (tgt := 3) (by decide +kernel) (by decide) ?_
        refine sWk (lo' := [(0, vr 7 0), (1, vi v1), (2, vi (v2 + (-8)))]) [1, 2, 0] rfl ?_
        exact ih v1 (v2 + (-8)) (wI (wI μ 35 0 (ix (rI μ 7 0 1)) (Int8.toInt32 (Int32.toInt8 (Int8.toInt32 (Int32.toInt8 (isr v1 v2)))))) 7 0 1 ((rI μ 7 0 1) + 1))
def X6_append (a1 : Int32) (μ : sM) : Option sM :=
  X6_append_L3 fuN a1 24 μ
theorem tX6_append (a1 : Int32) (μ : sM) : sMt yX6_append cX6_append 3 none 1 [vr 7 0, vi a1] μ (oV (X6_append a1 μ)) := by
  refine sMt_of (own := 6) (bl := false) (by decide +kernel) rfl (Nat.le_of_ble_eq_true rfl) (fun r ρ h => ?_) ?_
  · obtain ⟨q, -, hq⟩ := Option.map_eq_some_iff.mp h
    cases hq
    exact rfl
  · unfold X6_append
    show sOk 6 cX6_append 3 1 false 0 [(0, vr 7 0), (1, vi a1)] [] μ _
    refine sBk (lo' := [(2, vi 24), (0, vr 7 0), (1, vi a1)]) (st' := []) (μ' := μ) (pc' := 3) [(.bipush 24, 0, 0, 24, 0), (.istore_n 2, 0, 0, 0, 0)] (by decide +kernel) rfl rfl ?_
    refine sWk (lo' := [(0, vr 7 0), (1, vi a1), (2, vi 24)]) [1, 2, 0] rfl ?_
    exact X6_append_L3_ok fuN a1 24 μ
/-! ClockRiver$Tape.isBlank -/
def X6_isBlank (a0 : Int32) (μ : sM) : Option (Int32 × sM) :=
  if a0 = 10 then
    some (1, μ)
  else
    if a0 = 32 then
      some (1, μ)
    else
      some (0, μ)
theorem tX6_isBlank (a0 : Int32) (μ : sM) : sMt yX6_isBlank cX6_isBlank 1 (some .boolean) 1 [vi a0] μ (oI (X6_isBlank a0 μ)) := by
  refine sMt_of (own := 6) (bl := true) (by decide +kernel) rfl (Nat.le_of_ble_eq_true rfl) (fun r ρ h => ?_) ?_
  · obtain ⟨q, -, hq⟩ := Option.map_eq_some_iff.mp h
    cases hq
    exact Or.inr ⟨rfl, rfl⟩
  · unfold X6_isBlank
    show sOk 6 cX6_isBlank 1 1 true 0 [(0, vi a0)] [] μ _
    refine sBk (lo' := [(0, vi a0)]) (st' := [vi 10, vi a0]) (μ' := μ) (pc' := 3) [(.iload_n 0, 0, 0, 0, 0), (.bipush 10, 0, 0, 10, 0)] (by decide +kernel) rfl rfl ?_
    refine sIc_eq oI (off := 9) (tgt := 12) (by decide +kernel) (by decide) (fun _ => ?_) (fun _ => ?_)
    · refine sBk (lo' := [(0, vi a0)]) (st' := [vi 1]) (μ' := μ) (pc' := 13) [(.iconst 1, 0, 0, 1, 0)] (by decide +kernel) rfl rfl ?_
      refine sGt (off := 4) (tgt := 17) (by decide +kernel) (by decide) ?_
      exact sRi (by decide +kernel) (fun _ => Or.inr rfl)
    · refine sBk (lo' := [(0, vi a0)]) (st' := [vi 32, vi a0]) (μ' := μ) (pc' := 9) [(.iload_n 0, 0, 0, 0, 0), (.bipush 32, 0, 0, 32, 0)] (by decide +kernel) rfl rfl ?_
      refine sIc_ne oI (off := 7) (tgt := 16) (by decide +kernel) (by decide) (fun _ => ?_) (fun _ => ?_)
      · refine sBk (lo' := [(0, vi a0)]) (st' := [vi 0]) (μ' := μ) (pc' := 17) [(.iconst 0, 0, 0, 0, 0)] (by decide +kernel) rfl rfl ?_
        exact sRi (by decide +kernel) (fun _ => Or.inl rfl)
      · refine sBk (lo' := [(0, vi a0)]) (st' := [vi 1]) (μ' := μ) (pc' := 13) [(.iconst 1, 0, 0, 1, 0)] (by decide +kernel) rfl rfl ?_
        refine sGt (off := 4) (tgt := 17) (by decide +kernel) (by decide) ?_
        exact sRi (by decide +kernel) (fun _ => Or.inr rfl)
/-! ClockRiver$Tape.isLetter -/
def X6_isLetter (a0 : Int32) (μ : sM) : Option (Int32 × sM) :=
  if a0 < 97 then
    some (0, μ)
  else
    if 122 < a0 then
      some (0, μ)
    else
      some (1, μ)
theorem tX6_isLetter (a0 : Int32) (μ : sM) : sMt yX6_isLetter cX6_isLetter 1 (some .boolean) 1 [vi a0] μ (oI (X6_isLetter a0 μ)) := by
  refine sMt_of (own := 6) (bl := true) (by decide +kernel) rfl (Nat.le_of_ble_eq_true rfl) (fun r ρ h => ?_) ?_
  · obtain ⟨q, -, hq⟩ := Option.map_eq_some_iff.mp h
    cases hq
    exact Or.inr ⟨rfl, rfl⟩
  · unfold X6_isLetter
    show sOk 6 cX6_isLetter 1 1 true 0 [(0, vi a0)] [] μ _
    refine sBk (lo' := [(0, vi a0)]) (st' := [vi 97, vi a0]) (μ' := μ) (pc' := 3) [(.iload_n 0, 0, 0, 0, 0), (.bipush 97, 0, 0, 97, 0)] (by decide +kernel) rfl rfl ?_
    refine sIc_lt oI (off := 13) (tgt := 16) (by decide +kernel) (by decide) (fun _ => ?_) (fun _ => ?_)
    · refine sBk (lo' := [(0, vi a0)]) (st' := [vi 0]) (μ' := μ) (pc' := 17) [(.iconst 0, 0, 0, 0, 0)] (by decide +kernel) rfl rfl ?_
      exact sRi (by decide +kernel) (fun _ => Or.inl rfl)
    · refine sBk (lo' := [(0, vi a0)]) (st' := [vi 122, vi a0]) (μ' := μ) (pc' := 9) [(.iload_n 0, 0, 0, 0, 0), (.bipush 122, 0, 0, 122, 0)] (by decide +kernel) rfl rfl ?_
      refine sIc_gt oI (off := 7) (tgt := 16) (by decide +kernel) (by decide) (fun _ => ?_) (fun _ => ?_)
      · refine sBk (lo' := [(0, vi a0)]) (st' := [vi 0]) (μ' := μ) (pc' := 17) [(.iconst 0, 0, 0, 0, 0)] (by decide +kernel) rfl rfl ?_
        exact sRi (by decide +kernel) (fun _ => Or.inl rfl)
      · refine sBk (lo' := [(0, vi a0)]) (st' := [vi 1]) (μ' := μ) (pc' := 13) [(.iconst 1, 0, 0, 1, 0)] (by decide +kernel) rfl rfl ?_
        refine sGt (off := 4) (tgt := 17) (by decide +kernel) (by decide) ?_
        exact sRi (by decide +kernel) (fun _ => Or.inr rfl)
/-! ClockRiver$Tape.isLike -/
def X6_isLike_L3 : Nat → Int32 → Int32 → Int32 → Int32 → sM → Option (Int32 × sM)
  | 0, _, _, _, _, _ => none
  | n + 1, v1, v2, v3, v4, μ =>
    if v2 ≤ v4 then
      some (1, μ)
    else
      if inb v4 900 = true then
        if inb ((v3 + v4) - v1) 147 = true then
          if (rI μ 35 0 (ix v4)) = (kWb.getD (ix ((v3 + v4) - v1)) 0) then
            X6_isLike_L3 n v1 v2 v3 (v4 + 1) μ
          else
            some (0, μ)
        else none
      else none
theorem X6_isLike_L3_ok : ∀ (n : Nat) (v1 : Int32) (v2 : Int32) (v3 : Int32) (v4 : Int32) (μ : sM), sOk 6 cX6_isLike 5 5 true 3 [(0, vr 7 0), (1, vi v1), (2, vi v2), (3, vi v3), (4, vi v4)] [] μ (oI (X6_isLike_L3 n v1 v2 v3 v4 μ)) := by
  intro n
  induction n with
  | zero =>
    intros
    exact sNo
  | succ n ih =>
    intro v1 v2 v3 v4 μ
    unfold X6_isLike_L3
    refine sBk (lo' := [(0, vr 7 0), (1, vi v1), (2, vi v2), (3, vi v3), (4, vi v4)]) (st' := [vi v2, vi v4]) (μ' := μ) (pc' := 6) [(.iload 4, 0, 0, 0, 0), (.iload_n 2, 0, 0, 0, 0)] (by decide +kernel) rfl rfl ?_
    refine sIc_ge oI (off := 32) (tgt := 38) (by decide +kernel) (by decide) (fun _ => ?_) (fun _ => ?_)
    · refine sBk (lo' := [(0, vr 7 0), (1, vi v1), (2, vi v2), (3, vi v3), (4, vi v4)]) (st' := [vi 1]) (μ' := μ) (pc' := 39) [(.iconst 1, 0, 0, 1, 0)] (by decide +kernel) rfl rfl ?_
      exact sRi (by decide +kernel) (fun _ => Or.inr rfl)
    · refine sBk (lo' := [(0, vr 7 0), (1, vi v1), (2, vi v2), (3, vi v3), (4, vi v4)]) (st' := [vi v4, vr 35 0]) (μ' := μ) (pc' := 15) [(.aload_n 0, 0, 0, 0, 0), (.getfield 9, 6, 0, 0, 0), (.iload 4, 0, 0, 0, 0)] (by decide +kernel) rfl rfl ?_
      refine sS_bal oI rfl (n := 900) (j := (ix v4)) (by decide +kernel) rfl rfl rfl (fun _ => ?_)
      refine sLdW (by decide +kernel) ?_
      refine sBk (lo' := [(0, vr 7 0), (1, vi v1), (2, vi v2), (3, vi v3), (4, vi v4)]) (st' := [vi ((v3 + v4) - v1), vr 0 1, vi (rI μ 35 0 (ix v4))]) (μ' := μ) (pc' := 24) [(.iload_n 3, 0, 0, 0, 0), (.iload 4, 0, 0, 0, 0), (.iadd, 0, 0, 0, 0), (.iload_n 1, 0, 0, 0, 0), (.isub, 0, 0, 0, 0)] (by decide +kernel) rfl rfl ?_
      refine sCk oI rfl (fun h => ?_)
      refine sWc (by decide +kernel) (by decide) (Nat.le_of_ble_eq_true rfl) h ?_
      refine sIc_eq oI (off := 5) (tgt := 32) (by decide +kernel) (by decide) (fun _ => ?_) (fun _ => ?_)
      · refine sBk (lo' := [(4, vi (v4 + 1)), (0, vr 7 0), (1, vi v1), (2, vi v2), (3, vi v3)]) (st' := []) (μ' := μ) (pc' := 35) [(.iinc 4 1, 0, 0, 1, 0)] (by decide +kernel) rfl rfl ?_
        refine sGt (off := (-32)) (tgt := 3) (by decide +kernel) (by decide) ?_
        refine sWk (lo' := [(0, vr 7 0), (1, vi v1), (2, vi v2), (3, vi v3), (4, vi (v4 + 1))]) [1, 2, 3, 4, 0] rfl ?_
        exact ih v1 v2 v3 (v4 + 1) μ
      · refine sBk (lo' := [(0, vr 7 0), (1, vi v1), (2, vi v2), (3, vi v3), (4, vi v4)]) (st' := [vi 0]) (μ' := μ) (pc' := 31) [(.iconst 0, 0, 0, 0, 0)] (by decide +kernel) rfl rfl ?_
        exact sRi (by decide +kernel) (fun _ => Or.inl rfl)
def X6_isLike (a1 : Int32) (a2 : Int32) (a3 : Int32) (μ : sM) : Option (Int32 × sM) :=
  X6_isLike_L3 fuN a1 a2 a3 a1 μ
theorem tX6_isLike (a1 : Int32) (a2 : Int32) (a3 : Int32) (μ : sM) : sMt yX6_isLike cX6_isLike 5 (some .boolean) 5 [vr 7 0, vi a1, vi a2, vi a3] μ (oI (X6_isLike a1 a2 a3 μ)) := by
  refine sMt_of (own := 6) (bl := true) (by decide +kernel) rfl (Nat.le_of_ble_eq_true rfl) (fun r ρ h => ?_) ?_
  · obtain ⟨q, -, hq⟩ := Option.map_eq_some_iff.mp h
    cases hq
    exact Or.inr ⟨rfl, rfl⟩
  · unfold X6_isLike
    show sOk 6 cX6_isLike 5 5 true 0 [(0, vr 7 0), (1, vi a1), (2, vi a2), (3, vi a3)] [] μ _
    refine sBk (lo' := [(4, vi a1), (0, vr 7 0), (1, vi a1), (2, vi a2), (3, vi a3)]) (st' := []) (μ' := μ) (pc' := 3) [(.iload_n 1, 0, 0, 0, 0), (.istore 4, 0, 0, 0, 0)] (by decide +kernel) rfl rfl ?_
    refine sWk (lo' := [(0, vr 7 0), (1, vi a1), (2, vi a2), (3, vi a3), (4, vi a1)]) [1, 2, 3, 4, 0] rfl ?_
    exact X6_isLike_L3_ok fuN a1 a2 a3 a1 μ
/-! ClockRiver$Tape.kindOfWord -/
def X6_kindOfWord_J74 (k19 : Int32 → Int32 → Int32 → Int32 → Int32 → sM → Option (Int32 × sM)) (v1 : Int32) (v2 : Int32) (v3 : Int32) (v4 : Int32) (v5 : Int32) (μ : sM) : Option (Int32 × sM) :=
  k19 v1 v2 v3 v4 (v5 + 1) μ
theorem X6_kindOfWord_J74_ok {k19 : Int32 → Int32 → Int32 → Int32 → Int32 → sM → Option (Int32 × sM)} (hk19 : ∀ (v1 : Int32) (v2 : Int32) (v3 : Int32) (v4 : Int32) (v5 : Int32) (μ : sM), sOk 6 cX6_kindOfWord 6 6 false 19 [(0, vr 7 0), (1, vi v1), (2, vi v2), (3, vi v3), (4, vi v4), (5, vi v5)] [] μ (oI (k19 v1 v2 v3 v4 v5 μ))) (v1 : Int32) (v2 : Int32) (v3 : Int32) (v4 : Int32) (v5 : Int32) (μ : sM) : sOk 6 cX6_kindOfWord 6 6 false 74 [(0, vr 7 0), (1, vi v1), (2, vi v2), (3, vi v3), (4, vi v4), (5, vi v5)] [] μ (oI (X6_kindOfWord_J74 k19 v1 v2 v3 v4 v5 μ)) := by
  unfold X6_kindOfWord_J74
  refine sBk (lo' := [(5, vi (v5 + 1)), (0, vr 7 0), (1, vi v1), (2, vi v2), (3, vi v3), (4, vi v4)]) (st' := []) (μ' := μ) (pc' := 77) [(.iinc 5 1, 0, 0, 1, 0)] (by decide +kernel) rfl rfl ?_
  refine sGt (off := (-58)) (tgt := 19) (by decide +kernel) (by decide) ?_
  refine sWk (lo' := [(0, vr 7 0), (1, vi v1), (2, vi v2), (3, vi v3), (4, vi v4), (5, vi (v5 + 1))]) [1, 2, 3, 4, 5, 0] rfl ?_
  exact hk19 v1 v2 v3 v4 (v5 + 1) μ
def X6_kindOfWord_J65 (k19 : Int32 → Int32 → Int32 → Int32 → Int32 → sM → Option (Int32 × sM)) (v1 : Int32) (v2 : Int32) (v3 : Int32) (v5 : Int32) (μ : sM) : Option (Int32 × sM) :=
  X6_kindOfWord_J74 k19 v1 v2 (v3 + 1) (v5 + 1) v5 μ
theorem X6_kindOfWord_J65_ok {k19 : Int32 → Int32 → Int32 → Int32 → Int32 → sM → Option (Int32 × sM)} (hk19 : ∀ (v1 : Int32) (v2 : Int32) (v3 : Int32) (v4 : Int32) (v5 : Int32) (μ : sM), sOk 6 cX6_kindOfWord 6 6 false 19 [(0, vr 7 0), (1, vi v1), (2, vi v2), (3, vi v3), (4, vi v4), (5, vi v5)] [] μ (oI (k19 v1 v2 v3 v4 v5 μ))) (v1 : Int32) (v2 : Int32) (v3 : Int32) (v5 : Int32) (μ : sM) : sOk 6 cX6_kindOfWord 6 6 false 65 [(0, vr 7 0), (1, vi v1), (2, vi v2), (3, vi v3), (5, vi v5)] [] μ (oI (X6_kindOfWord_J65 k19 v1 v2 v3 v5 μ)) := by
  unfold X6_kindOfWord_J65
  refine sBk (lo' := [(4, vi (v5 + 1)), (3, vi (v3 + 1)), (0, vr 7 0), (1, vi v1), (2, vi v2), (5, vi v5)]) (st' := []) (μ' := μ) (pc' := 74) [(.iinc 3 1, 0, 0, 1, 0), (.iload 5, 0, 0, 0, 0), (.iconst 1, 0, 0, 1, 0), (.iadd, 0, 0, 0, 0), (.istore 4, 0, 0, 0, 0)] (by decide +kernel) rfl rfl ?_
  refine sWk (lo' := [(0, vr 7 0), (1, vi v1), (2, vi v2), (3, vi (v3 + 1)), (4, vi (v5 + 1)), (5, vi v5)]) [2, 3, 4, 1, 0, 5] rfl ?_
  exact X6_kindOfWord_J74_ok hk19 v1 v2 (v3 + 1) (v5 + 1) v5 μ
def X6_kindOfWord_L19 : Nat → Int32 → Int32 → Int32 → Int32 → Int32 → sM → Option (Int32 × sM)
  | 0, _, _, _, _, _, _ => none
  | n + 1, v1, v2, v3, v4, v5, μ =>
    if 147 ≤ v5 then
      some (27, μ)
    else
      if inb v5 147 = true then
        if (kWb.getD (ix v5) 0) = 32 then
          if (v5 - v4) = (v2 - v1) then
            bI (X6_isLike v1 v2 v4 μ) fun x1 μ2 =>
              if x1 = 0 then
                X6_kindOfWord_J65 (X6_kindOfWord_L19 n) v1 v2 v3 v5 μ2
              else
                some (v3, μ2)
          else
            X6_kindOfWord_J65 (X6_kindOfWord_L19 n) v1 v2 v3 v5 μ
        else
          X6_kindOfWord_J74 (X6_kindOfWord_L19 n) v1 v2 v3 v4 v5 μ
      else none
theorem X6_kindOfWord_L19_ok : ∀ (n : Nat) (v1 : Int32) (v2 : Int32) (v3 : Int32) (v4 : Int32) (v5 : Int32) (μ : sM), sOk 6 cX6_kindOfWord 6 6 false 19 [(0, vr 7 0), (1, vi v1), (2, vi v2), (3, vi v3), (4, vi v4), (5, vi v5)] [] μ (oI (X6_kindOfWord_L19 n v1 v2 v3 v4 v5 μ)) := by
  intro n
  induction n with
  | zero =>
    intros
    exact sNo
  | succ n ih =>
    intro v1 v2 v3 v4 v5 μ
    unfold X6_kindOfWord_L19
    refine sBk (lo' := [(0, vr 7 0), (1, vi v1), (2, vi v2), (3, vi v3), (4, vi v4), (5, vi v5)]) (st' := [vi v5]) (μ' := μ) (pc' := 21) [(.iload 5, 0, 0, 0, 0)] (by decide +kernel) rfl rfl ?_
    refine sLdW (by decide +kernel) ?_
    refine sWl (by decide +kernel) (by decide) (Nat.le_of_ble_eq_true rfl) ?_
    refine sIc_ge oI (off := 54) (tgt := 80) (by decide +kernel) (by decide) (fun _ => ?_) (fun _ => ?_)
    · refine sBk (lo' := [(0, vr 7 0), (1, vi v1), (2, vi v2), (3, vi v3), (4, vi v4), (5, vi v5)]) (st' := [vi 27]) (μ' := μ) (pc' := 82) [(.bipush 27, 0, 0, 27, 0)] (by decide +kernel) rfl rfl ?_
      exact sRi (by decide +kernel) (fun h => by cases h)
    · refine sLdW (by decide +kernel) ?_
      refine sBk (lo' := [(0, vr 7 0), (1, vi v1), (2, vi v2), (3, vi v3), (4, vi v4), (5, vi v5)]) (st' := [vi v5, vr 0 1]) (μ' := μ) (pc' := 33) [(.iload 5, 0, 0, 0, 0)] (by decide +kernel) rfl rfl ?_
      refine sCk oI rfl (fun h => ?_)
      refine sWc (by decide +kernel) (by decide) (Nat.le_of_ble_eq_true rfl) h ?_
      refine sBk (lo' := [(0, vr 7 0), (1, vi v1), (2, vi v2), (3, vi v3), (4, vi v4), (5, vi v5)]) (st' := [vi 32, vi (kWb.getD (ix v5) 0)]) (μ' := μ) (pc' := 38) [(.bipush 32, 0, 0, 32, 0)] (by decide +kernel) rfl rfl ?_
      refine sIc_ne oI (off := 36) (tgt := 74) (by decide +kernel) (by decide) (fun _ => ?_) (fun _ => ?_)
      · exact X6_kindOfWord_J74_ok ih v1 v2 v3 v4 v5 μ
      · refine sBk (lo' := [(0, vr 7 0), (1, vi v1), (2, vi v2), (3, vi v3), (4, vi v4), (5, vi v5)]) (st' := [vi (v2 - v1), vi (v5 - v4)]) (μ' := μ) (pc' := 49) [(.iload 5, 0, 0, 0, 0), (.iload 4, 0, 0, 0, 0), (.isub, 0, 0, 0, 0), (.iload_n 2, 0, 0, 0, 0), (.iload_n 1, 0, 0, 0, 0), (.isub, 0, 0, 0, 0)] (by decide +kernel) rfl rfl ?_
        refine sIc_ne oI (off := 16) (tgt := 65) (by decide +kernel) (by decide) (fun _ => ?_) (fun _ => ?_)
        · refine sWk (lo' := [(0, vr 7 0), (1, vi v1), (2, vi v2), (3, vi v3), (5, vi v5)]) [0, 1, 2, 3, 5] rfl ?_
          exact X6_kindOfWord_J65_ok ih v1 v2 v3 v5 μ
        · refine sBk (lo' := [(0, vr 7 0), (1, vi v1), (2, vi v2), (3, vi v3), (4, vi v4), (5, vi v5)]) (st' := [vi v4, vi v2, vi v1, vr 7 0]) (μ' := μ) (pc' := 57) [(.aload_n 0, 0, 0, 0, 0), (.iload_n 1, 0, 0, 0, 0), (.iload_n 2, 0, 0, 0, 0), (.iload 4, 0, 0, 0, 0)] (by decide +kernel) rfl rfl ?_
          refine sCvI oI rfl (ci := 6) (q := (7, 0)) (avs := [vi v1, vi v2, vi v4]) (rest := []) (tX6_isLike v1 v2 v4 μ) (by decide) (by decide +kernel) lk_6_109 yv_X6_isLike rfl (by decide) rfl rfl rfl (Nat.le_of_ble_eq_true rfl) (fun x1 μ2 => ?_)
          refine sIf_eq oI (off := 5) (tgt := 65) (by decide +kernel) (by decide) (fun _ => ?_) (fun _ => ?_)
          · refine sWk (lo' := [(0, vr 7 0), (1, vi v1), (2, vi v2), (3, vi v3), (5, vi v5)]) [0, 1, 2, 3, 5] rfl ?_
            exact X6_kindOfWord_J65_ok ih v1 v2 v3 v5 μ2
          · refine sBk (lo' := [(0, vr 7 0), (1, vi v1), (2, vi v2), (3, vi v3), (4, vi v4), (5, vi v5)]) (st' := [vi v3]) (μ' := μ2) (pc' := 64) [(.iload_n 3, 0, 0, 0, 0)] (by decide +kernel) rfl rfl ?_
            exact sRi (by decide +kernel) (fun h => by cases h)
def X6_kindOfWord (a1 : Int32) (a2 : Int32) (μ : sM) : Option (Int32 × sM) :=
  if (a2 - a1) ≤ 8 then
    X6_kindOfWord_L19 fuN a1 a2 0 0 0 μ
  else
    some (28, μ)
theorem tX6_kindOfWord (a1 : Int32) (a2 : Int32) (μ : sM) : sMt yX6_kindOfWord cX6_kindOfWord 6 (some .int) 6 [vr 7 0, vi a1, vi a2] μ (oI (X6_kindOfWord a1 a2 μ)) := by
  refine sMt_of (own := 6) (bl := false) (by decide +kernel) rfl (Nat.le_of_ble_eq_true rfl) (fun r ρ h => ?_) ?_
  · obtain ⟨q, -, hq⟩ := Option.map_eq_some_iff.mp h
    cases hq
    exact Or.inl rfl
  · unfold X6_kindOfWord
    show sOk 6 cX6_kindOfWord 6 6 false 0 [(0, vr 7 0), (1, vi a1), (2, vi a2)] [] μ _
    refine sBk (lo' := [(0, vr 7 0), (1, vi a1), (2, vi a2)]) (st' := [vi 8, vi (a2 - a1)]) (μ' := μ) (pc' := 5) [(.iload_n 2, 0, 0, 0, 0), (.iload_n 1, 0, 0, 0, 0), (.isub, 0, 0, 0, 0), (.bipush 8, 0, 0, 8, 0)] (by decide +kernel) rfl rfl ?_
    refine sIc_le oI (off := 6) (tgt := 11) (by decide +kernel) (by decide) (fun _ => ?_) (fun _ => ?_)
    · refine sBk (lo' := [(5, vi 0), (4, vi 0), (3, vi 0), (0, vr 7 0), (1, vi a1), (2, vi a2)]) (st' := []) (μ' := μ) (pc' := 19) [(.iconst 0, 0, 0, 0, 0), (.istore_n 3, 0, 0, 0, 0), (.iconst 0, 0, 0, 0, 0), (.istore 4, 0, 0, 0, 0), (.iconst 0, 0, 0, 0, 0), (.istore 5, 0, 0, 0, 0)] (by decide +kernel) rfl rfl ?_
      refine sWk (lo' := [(0, vr 7 0), (1, vi a1), (2, vi a2), (3, vi 0), (4, vi 0), (5, vi 0)]) [3, 4, 5, 2, 1, 0] rfl ?_
      exact X6_kindOfWord_L19_ok fuN a1 a2 0 0 0 μ
    · refine sBk (lo' := [(0, vr 7 0), (1, vi a1), (2, vi a2)]) (st' := [vi 28]) (μ' := μ) (pc' := 10) [(.bipush 28, 0, 0, 28, 0)] (by decide +kernel) rfl rfl ?_
      exact sRi (by decide +kernel) (fun h => by cases h)
/-! ClockRiver$Tape.addWord -/
def X6_addWord_L51 : Nat → Int32 → Int32 → sM → Option (Int32 × sM)
  | 0, _, _, _ => none
  | n + 1, v3, v4, μ =>
    if v3 ≤ v4 then
      some (v3, μ)
    else
      if inb (rI μ 7 0 8) 901 = true then
        if inb v4 900 = true then
          if inb (rI μ 7 0 8) 901 = true then
            X6_addWord_L51 n v3 (v4 + 1) (wL μ 38 0 (ix (rI μ 7 0 8)) (((rL μ 38 0 (ix (rI μ 7 0 8))) * 256) + (Int32.toInt64 (rI μ 35 0 (ix v4)))))
          else none
        else none
      else none
theorem X6_addWord_L51_ok : ∀ (n : Nat) (v3 : Int32) (v4 : Int32) (μ : sM), sOk 6 cX6_addWord 5 7 false 51 [(0, vr 7 0), (3, vi v3), (4, vi v4)] [] μ (oI (X6_addWord_L51 n v3 v4 μ)) := by
  intro n
  induction n with
  | zero =>
    intros
    exact sNo
  | succ n ih =>
    intro v3 v4 μ
    unfold X6_addWord_L51
    refine sBk (lo' := [(0, vr 7 0), (3, vi v3), (4, vi v4)]) (st' := [vi v3, vi v4]) (μ' := μ) (pc' := 54) [(.iload 4, 0, 0, 0, 0), (.iload_n 3, 0, 0, 0, 0)] (by decide +kernel) rfl rfl ?_
    refine sIc_ge oI (off := 40) (tgt := 94) (by decide +kernel) (by decide) (fun _ => ?_) (fun _ => ?_)
    · refine sBk (lo' := [(0, vr 7 0), (3, vi v3), (4, vi v4)]) (st' := [vi v3]) (μ' := μ) (pc' := 95) [(.iload_n 3, 0, 0, 0, 0)] (by decide +kernel) rfl rfl ?_
      exact sRi (by decide +kernel) (fun h => by cases h)
    · refine sBk (lo' := [(0, vr 7 0), (3, vi v3), (4, vi v4)]) (st' := [vi (rI μ 7 0 8), vr 38 0, vi (rI μ 7 0 8), vr 38 0]) (μ' := μ) (pc' := 73) [(.aload_n 0, 0, 0, 0, 0), (.getfield 29, 6, 11, 0, 0), (.aload_n 0, 0, 0, 0, 0), (.getfield 42, 6, 8, 0, 0), (.aload_n 0, 0, 0, 0, 0), (.getfield 29, 6, 11, 0, 0), (.aload_n 0, 0, 0, 0, 0), (.getfield 42, 6, 8, 0, 0)] (by decide +kernel) rfl rfl ?_
      refine sS_lal oI rfl (n := 901) (j := (ix (rI μ 7 0 8))) (by decide +kernel) rfl rfl rfl (fun _ => ?_)
      refine sBk (lo' := [(0, vr 7 0), (3, vi v3), (4, vi v4)]) (st' := [vi v4, vr 35 0, vl ((rL μ 38 0 (ix (rI μ 7 0 8))) * 256), vi (rI μ 7 0 8), vr 38 0]) (μ' := μ) (pc' := 84) [(.ldc2_w 95, 0, 0, 0, 256), (.lmul, 0, 0, 0, 0), (.aload_n 0, 0, 0, 0, 0), (.getfield 9, 6, 0, 0, 0), (.iload 4, 0, 0, 0, 0)] (by decide +kernel) rfl rfl ?_
      refine sS_bal oI rfl (n := 900) (j := (ix v4)) (by decide +kernel) rfl rfl rfl (fun _ => ?_)
      refine sBk (lo' := [(0, vr 7 0), (3, vi v3), (4, vi v4)]) (st' := [vl (((rL μ 38 0 (ix (rI μ 7 0 8))) * 256) + (Int32.toInt64 (rI μ 35 0 (ix v4)))), vi (rI μ 7 0 8), vr 38 0]) (μ' := μ) (pc' := 87) [(.i2l, 0, 0, 0, 0), (.ladd, 0, 0, 0, 0)] (by decide +kernel) rfl rfl ?_
      refine sS_las oI rfl (n := 901) (j := (ix (rI μ 7 0 8))) (by decide +kernel) rfl rfl rfl (fun _ => ?_)
      refine sBk (lo' := [(4, vi (v4 + 1)), (0, vr 7 0), (3, vi v3)]) (st' := []) (μ' := wL μ 38 0 (ix (rI μ 7 0 8)) (((rL μ 38 0 (ix (rI μ 7 0 8))) * 256) + (Int32.toInt64 (rI μ 35 0 (ix v4))))) (pc' := 91) [(.iinc 4 1, 0, 0, 1, 0)] (by decide +kernel) rfl rfl ?_
      refine sGt (off := (-40)) (tgt := 51) (by decide +kernel) (by decide) ?_
      refine sWk (lo' := [(0, vr 7 0), (3, vi v3), (4, vi (v4 + 1))]) [1, 2, 0] rfl ?_
      exact ih v3 (v4 + 1) (wL μ 38 0 (ix (rI μ 7 0 8)) (((rL μ 38 0 (ix (rI μ 7 0 8))) * 256) + (Int32.toInt64 (rI μ 35 0 (ix v4)))))
def X6_addWord_J25 (v1 : Int32) (v3 : Int32) (μ : sM) : Option (Int32 × sM) :=
  bI (X6_kindOfWord v1 v3 μ) fun x1 μ2 =>
    if inb (rI μ 7 0 8) 901 = true then
      if 8 < (v3 - v1) then
        some (v3, wI μ2 36 0 (ix (rI μ 7 0 8)) x1)
      else
        X6_addWord_L51 fuN v3 v1 (wI μ2 36 0 (ix (rI μ 7 0 8)) x1)
    else none
theorem X6_addWord_J25_ok (v1 : Int32) (v3 : Int32) (μ : sM) : sOk 6 cX6_addWord 5 7 false 25 [(0, vr 7 0), (1, vi v1), (3, vi v3)] [] μ (oI (X6_addWord_J25 v1 v3 μ)) := by
  unfold X6_addWord_J25
  refine sBk (lo' := [(0, vr 7 0), (1, vi v1), (3, vi v3)]) (st' := [vi v3, vi v1, vr 7 0, vi (rI μ 7 0 8), vr 36 0]) (μ' := μ) (pc' := 36) [(.aload_n 0, 0, 0, 0, 0), (.getfield 22, 6, 9, 0, 0), (.aload_n 0, 0, 0, 0, 0), (.getfield 42, 6, 8, 0, 0), (.aload_n 0, 0, 0, 0, 0), (.iload_n 1, 0, 0, 0, 0), (.iload_n 3, 0, 0, 0, 0)] (by decide +kernel) rfl rfl ?_
  refine sCvI oI rfl (ci := 6) (q := (7, 0)) (avs := [vi v1, vi v3]) (rest := [vi (rI μ 7 0 8), vr 36 0]) (tX6_kindOfWord v1 v3 μ) (by decide) (by decide +kernel) lk_6_92 yv_X6_kindOfWord rfl (by decide) rfl rfl rfl (Nat.le_of_ble_eq_true rfl) (fun x1 μ2 => ?_)
  refine sS_ias oI rfl (n := 901) (j := (ix (rI μ 7 0 8))) (by decide +kernel) rfl rfl rfl (fun _ => ?_)
  refine sBk (lo' := [(0, vr 7 0), (1, vi v1), (3, vi v3)]) (st' := [vi 8, vi (v3 - v1)]) (μ' := wI μ2 36 0 (ix (rI μ 7 0 8)) x1) (pc' := 45) [(.iload_n 3, 0, 0, 0, 0), (.iload_n 1, 0, 0, 0, 0), (.isub, 0, 0, 0, 0), (.bipush 8, 0, 0, 8, 0)] (by decide +kernel) rfl rfl ?_
  refine sIc_gt oI (off := 49) (tgt := 94) (by decide +kernel) (by decide) (fun _ => ?_) (fun _ => ?_)
  · refine sBk (lo' := [(0, vr 7 0), (1, vi v1), (3, vi v3)]) (st' := [vi v3]) (μ' := wI μ2 36 0 (ix (rI μ 7 0 8)) x1) (pc' := 95) [(.iload_n 3, 0, 0, 0, 0)] (by decide +kernel) rfl rfl ?_
    exact sRi (by decide +kernel) (fun h => by cases h)
  · refine sBk (lo' := [(4, vi v1), (0, vr 7 0), (1, vi v1), (3, vi v3)]) (st' := []) (μ' := wI μ2 36 0 (ix (rI μ 7 0 8)) x1) (pc' := 51) [(.iload_n 1, 0, 0, 0, 0), (.istore 4, 0, 0, 0, 0)] (by decide +kernel) rfl rfl ?_
    refine sWk (lo' := [(0, vr 7 0), (3, vi v3), (4, vi v1)]) [1, 3, 0] rfl ?_
    exact X6_addWord_L51_ok fuN v3 v1 (wI μ2 36 0 (ix (rI μ 7 0 8)) x1)
def X6_addWord_L2 : Nat → Int32 → Int32 → Int32 → sM → Option (Int32 × sM)
  | 0, _, _, _, _ => none
  | n + 1, v1, v2, v3, μ =>
    if v2 ≤ v3 then
      X6_addWord_J25 v1 v3 μ
    else
      if inb v3 900 = true then
        bI (X6_isLetter (rI μ 35 0 (ix v3)) μ) fun x1 μ2 =>
          if x1 = 0 then
            X6_addWord_J25 v1 v3 μ2
          else
            X6_addWord_L2 n v1 v2 (v3 + 1) μ2
      else none
theorem X6_addWord_L2_ok : ∀ (n : Nat) (v1 : Int32) (v2 : Int32) (v3 : Int32) (μ : sM), sOk 6 cX6_addWord 5 7 false 2 [(0, vr 7 0), (1, vi v1), (2, vi v2), (3, vi v3)] [] μ (oI (X6_addWord_L2 n v1 v2 v3 μ)) := by
  intro n
  induction n with
  | zero =>
    intros
    exact sNo
  | succ n ih =>
    intro v1 v2 v3 μ
    unfold X6_addWord_L2
    refine sBk (lo' := [(0, vr 7 0), (1, vi v1), (2, vi v2), (3, vi v3)]) (st' := [vi v2, vi v3]) (μ' := μ) (pc' := 4) [(.iload_n 3, 0, 0, 0, 0), (.iload_n 2, 0, 0, 0, 0)] (by decide +kernel) rfl rfl ?_
    refine sIc_ge oI (off := 21) (tgt := 25) (by decide +kernel) (by decide) (fun _ => ?_) (fun _ => ?_)
    · refine sWk (lo' := [(0, vr 7 0), (1, vi v1), (3, vi v3)]) [0, 1, 3] rfl ?_
      exact X6_addWord_J25_ok v1 v3 μ
    · refine sBk (lo' := [(0, vr 7 0), (1, vi v1), (2, vi v2), (3, vi v3)]) (st' := [vi v3, vr 35 0]) (μ' := μ) (pc' := 12) [(.aload_n 0, 0, 0, 0, 0), (.getfield 9, 6, 0, 0, 0), (.iload_n 3, 0, 0, 0, 0)] (by decide +kernel) rfl rfl ?_
      refine sS_bal oI rfl (n := 900) (j := (ix v3)) (by decide +kernel) rfl rfl rfl (fun _ => ?_)
      refine sCsI oI rfl (avs := [vi (rI μ 35 0 (ix v3))]) (rest := []) (tX6_isLetter (rI μ 35 0 (ix v3)) μ) (by decide) (by decide +kernel) lk_6_77 ys_X6_isLetter rfl rfl (Nat.le_of_ble_eq_true rfl) (fun x1 μ2 => ?_)
      refine sIf_eq oI (off := 9) (tgt := 25) (by decide +kernel) (by decide) (fun _ => ?_) (fun _ => ?_)
      · refine sWk (lo' := [(0, vr 7 0), (1, vi v1), (3, vi v3)]) [0, 1, 3] rfl ?_
        exact X6_addWord_J25_ok v1 v3 μ2
      · refine sBk (lo' := [(3, vi (v3 + 1)), (0, vr 7 0), (1, vi v1), (2, vi v2)]) (st' := []) (μ' := μ2) (pc' := 22) [(.iinc 3 1, 0, 0, 1, 0)] (by decide +kernel) rfl rfl ?_
        refine sGt (off := (-20)) (tgt := 2) (by decide +kernel) (by decide) ?_
        refine sWk (lo' := [(0, vr 7 0), (1, vi v1), (2, vi v2), (3, vi (v3 + 1))]) [1, 2, 3, 0] rfl ?_
        exact ih v1 v2 (v3 + 1) μ2
def X6_addWord (a1 : Int32) (a2 : Int32) (μ : sM) : Option (Int32 × sM) :=
  X6_addWord_L2 fuN a1 a2 a1 μ
theorem tX6_addWord (a1 : Int32) (a2 : Int32) (μ : sM) : sMt yX6_addWord cX6_addWord 5 (some .int) 7 [vr 7 0, vi a1, vi a2] μ (oI (X6_addWord a1 a2 μ)) := by
  refine sMt_of (own := 6) (bl := false) (by decide +kernel) rfl (Nat.le_of_ble_eq_true rfl) (fun r ρ h => ?_) ?_
  · obtain ⟨q, -, hq⟩ := Option.map_eq_some_iff.mp h
    cases hq
    exact Or.inl rfl
  · unfold X6_addWord
    show sOk 6 cX6_addWord 5 7 false 0 [(0, vr 7 0), (1, vi a1), (2, vi a2)] [] μ _
    refine sBk (lo' := [(3, vi a1), (0, vr 7 0), (1, vi a1), (2, vi a2)]) (st' := []) (μ' := μ) (pc' := 2) [(.iload_n 1, 0, 0, 0, 0), (.istore_n 3, 0, 0, 0, 0)] (by decide +kernel) rfl rfl ?_
    refine sWk (lo' := [(0, vr 7 0), (1, vi a1), (2, vi a2), (3, vi a1)]) [1, 2, 3, 0] rfl ?_
    exact X6_addWord_L2_ok fuN a1 a2 a1 μ
/-! ClockRiver$Tape.isDigit -/
def X6_isDigit (a0 : Int32) (μ : sM) : Option (Int32 × sM) :=
  if a0 < 48 then
    some (0, μ)
  else
    if 57 < a0 then
      some (0, μ)
    else
      some (1, μ)
theorem tX6_isDigit (a0 : Int32) (μ : sM) : sMt yX6_isDigit cX6_isDigit 1 (some .boolean) 1 [vi a0] μ (oI (X6_isDigit a0 μ)) := by
  refine sMt_of (own := 6) (bl := true) (by decide +kernel) rfl (Nat.le_of_ble_eq_true rfl) (fun r ρ h => ?_) ?_
  · obtain ⟨q, -, hq⟩ := Option.map_eq_some_iff.mp h
    cases hq
    exact Or.inr ⟨rfl, rfl⟩
  · unfold X6_isDigit
    show sOk 6 cX6_isDigit 1 1 true 0 [(0, vi a0)] [] μ _
    refine sBk (lo' := [(0, vi a0)]) (st' := [vi 48, vi a0]) (μ' := μ) (pc' := 3) [(.iload_n 0, 0, 0, 0, 0), (.bipush 48, 0, 0, 48, 0)] (by decide +kernel) rfl rfl ?_
    refine sIc_lt oI (off := 13) (tgt := 16) (by decide +kernel) (by decide) (fun _ => ?_) (fun _ => ?_)
    · refine sBk (lo' := [(0, vi a0)]) (st' := [vi 0]) (μ' := μ) (pc' := 17) [(.iconst 0, 0, 0, 0, 0)] (by decide +kernel) rfl rfl ?_
      exact sRi (by decide +kernel) (fun _ => Or.inl rfl)
    · refine sBk (lo' := [(0, vi a0)]) (st' := [vi 57, vi a0]) (μ' := μ) (pc' := 9) [(.iload_n 0, 0, 0, 0, 0), (.bipush 57, 0, 0, 57, 0)] (by decide +kernel) rfl rfl ?_
      refine sIc_gt oI (off := 7) (tgt := 16) (by decide +kernel) (by decide) (fun _ => ?_) (fun _ => ?_)
      · refine sBk (lo' := [(0, vi a0)]) (st' := [vi 0]) (μ' := μ) (pc' := 17) [(.iconst 0, 0, 0, 0, 0)] (by decide +kernel) rfl rfl ?_
        exact sRi (by decide +kernel) (fun _ => Or.inl rfl)
      · refine sBk (lo' := [(0, vi a0)]) (st' := [vi 1]) (μ' := μ) (pc' := 13) [(.iconst 1, 0, 0, 1, 0)] (by decide +kernel) rfl rfl ?_
        refine sGt (off := 4) (tgt := 17) (by decide +kernel) (by decide) ?_
        exact sRi (by decide +kernel) (fun _ => Or.inr rfl)
/-! ClockRiver$Tape.addNumber -/
def X6_addNumber_J60 (k2 : Int32 → Int32 → Int32 → sM → Option (Int32 × sM)) (v1 : Int32) (v2 : Int32) (v3 : Int32) (μ : sM) : Option (Int32 × sM) :=
  k2 v1 v2 (v3 + 1) μ
theorem X6_addNumber_J60_ok {k2 : Int32 → Int32 → Int32 → sM → Option (Int32 × sM)} (hk2 : ∀ (v1 : Int32) (v2 : Int32) (v3 : Int32) (μ : sM), sOk 6 cX6_addNumber 5 2 false 2 [(0, vr 7 0), (1, vi v1), (2, vi v2), (3, vi v3)] [] μ (oI (k2 v1 v2 v3 μ))) (v1 : Int32) (v2 : Int32) (v3 : Int32) (μ : sM) : sOk 6 cX6_addNumber 5 2 false 60 [(0, vr 7 0), (1, vi v1), (2, vi v2), (3, vi v3)] [] μ (oI (X6_addNumber_J60 k2 v1 v2 v3 μ)) := by
  unfold X6_addNumber_J60
  refine sBk (lo' := [(3, vi (v3 + 1)), (0, vr 7 0), (1, vi v1), (2, vi v2)]) (st' := []) (μ' := μ) (pc' := 63) [(.iinc 3 1, 0, 0, 1, 0)] (by decide +kernel) rfl rfl ?_
  refine sGt (off := (-61)) (tgt := 2) (by decide +kernel) (by decide) ?_
  refine sWk (lo' := [(0, vr 7 0), (1, vi v1), (2, vi v2), (3, vi (v3 + 1))]) [1, 2, 3, 0] rfl ?_
  exact hk2 v1 v2 (v3 + 1) μ
def X6_addNumber_J100 (v2 : Int32) (v3 : Int32) (v4 : Int32) (s0 : Int32) (s1 : Int32) (μ : sM) : Option (Int32 × sM) :=
  if inb s1 901 = true then
    if v4 = 0 then
      some ((v2 + 1), wI μ 36 0 (ix s1) s0)
    else
      some (v3, wI μ 36 0 (ix s1) s0)
  else none
theorem X6_addNumber_J100_ok (v2 : Int32) (v3 : Int32) (v4 : Int32) (s0 : Int32) (s1 : Int32) (μ : sM) : sOk 6 cX6_addNumber 5 2 false 100 [(2, vi v2), (3, vi v3), (4, vi v4)] [vi s0, vi s1, vr 36 0] μ (oI (X6_addNumber_J100 v2 v3 v4 s0 s1 μ)) := by
  unfold X6_addNumber_J100
  refine sS_ias oI rfl (n := 901) (j := (ix s1)) (by decide +kernel) rfl rfl rfl (fun _ => ?_)
  refine sBk (lo' := [(2, vi v2), (3, vi v3), (4, vi v4)]) (st' := [vi v4]) (μ' := wI μ 36 0 (ix s1) s0) (pc' := 103) [(.iload 4, 0, 0, 0, 0)] (by decide +kernel) rfl rfl ?_
  refine sIf_eq oI (off := 7) (tgt := 110) (by decide +kernel) (by decide) (fun _ => ?_) (fun _ => ?_)
  · refine sBk (lo' := [(2, vi v2), (3, vi v3), (4, vi v4)]) (st' := [vi (v2 + 1)]) (μ' := wI μ 36 0 (ix s1) s0) (pc' := 113) [(.iload_n 2, 0, 0, 0, 0), (.iconst 1, 0, 0, 1, 0), (.iadd, 0, 0, 0, 0)] (by decide +kernel) rfl rfl ?_
    exact sRi (by decide +kernel) (fun h => by cases h)
  · refine sBk (lo' := [(2, vi v2), (3, vi v3), (4, vi v4)]) (st' := [vi v3]) (μ' := wI μ 36 0 (ix s1) s0) (pc' := 107) [(.iload_n 3, 0, 0, 0, 0)] (by decide +kernel) rfl rfl ?_
    refine sGt (off := 6) (tgt := 113) (by decide +kernel) (by decide) ?_
    exact sRi (by decide +kernel) (fun h => by cases h)
def X6_addNumber_J78 (v2 : Int32) (v3 : Int32) (s0 : Int32) (μ : sM) : Option (Int32 × sM) :=
  if s0 = 0 then
    X6_addNumber_J100 v2 v3 s0 31 (rI μ 7 0 8) μ
  else
    X6_addNumber_J100 v2 v3 s0 29 (rI μ 7 0 8) μ
theorem X6_addNumber_J78_ok (v2 : Int32) (v3 : Int32) (s0 : Int32) (μ : sM) : sOk 6 cX6_addNumber 5 2 false 78 [(0, vr 7 0), (2, vi v2), (3, vi v3)] [vi s0] μ (oI (X6_addNumber_J78 v2 v3 s0 μ)) := by
  unfold X6_addNumber_J78
  refine sBk (lo' := [(4, vi s0), (0, vr 7 0), (2, vi v2), (3, vi v3)]) (st' := [vi s0, vi (rI μ 7 0 8), vr 36 0]) (μ' := μ) (pc' := 90) [(.istore 4, 0, 0, 0, 0), (.aload_n 0, 0, 0, 0, 0), (.getfield 22, 6, 9, 0, 0), (.aload_n 0, 0, 0, 0, 0), (.getfield 42, 6, 8, 0, 0), (.iload 4, 0, 0, 0, 0)] (by decide +kernel) rfl rfl ?_
  refine sIf_eq oI (off := 8) (tgt := 98) (by decide +kernel) (by decide) (fun _ => ?_) (fun _ => ?_)
  · refine sBk (lo' := [(4, vi s0), (0, vr 7 0), (2, vi v2), (3, vi v3)]) (st' := [vi 31, vi (rI μ 7 0 8), vr 36 0]) (μ' := μ) (pc' := 100) [(.bipush 31, 0, 0, 31, 0)] (by decide +kernel) rfl rfl ?_
    refine sWk (lo' := [(2, vi v2), (3, vi v3), (4, vi s0)]) [2, 3, 0] rfl ?_
    exact X6_addNumber_J100_ok v2 v3 s0 31 (rI μ 7 0 8) μ
  · refine sBk (lo' := [(4, vi s0), (0, vr 7 0), (2, vi v2), (3, vi v3)]) (st' := [vi 29, vi (rI μ 7 0 8), vr 36 0]) (μ' := μ) (pc' := 95) [(.bipush 29, 0, 0, 29, 0)] (by decide +kernel) rfl rfl ?_
    refine sGt (off := 5) (tgt := 100) (by decide +kernel) (by decide) ?_
    refine sWk (lo' := [(2, vi v2), (3, vi v3), (4, vi s0)]) [2, 3, 0] rfl ?_
    exact X6_addNumber_J100_ok v2 v3 s0 29 (rI μ 7 0 8) μ
def X6_addNumber_J66 (v1 : Int32) (v2 : Int32) (v3 : Int32) (μ : sM) : Option (Int32 × sM) :=
  if 4 < (v3 - v1) then
    X6_addNumber_J78 v2 v3 0 μ
  else
    X6_addNumber_J78 v2 v3 1 μ
theorem X6_addNumber_J66_ok (v1 : Int32) (v2 : Int32) (v3 : Int32) (μ : sM) : sOk 6 cX6_addNumber 5 2 false 66 [(0, vr 7 0), (1, vi v1), (2, vi v2), (3, vi v3)] [] μ (oI (X6_addNumber_J66 v1 v2 v3 μ)) := by
  unfold X6_addNumber_J66
  refine sBk (lo' := [(0, vr 7 0), (1, vi v1), (2, vi v2), (3, vi v3)]) (st' := [vi 4, vi (v3 - v1)]) (μ' := μ) (pc' := 70) [(.iload_n 3, 0, 0, 0, 0), (.iload_n 1, 0, 0, 0, 0), (.isub, 0, 0, 0, 0), (.iconst 4, 0, 0, 4, 0)] (by decide +kernel) rfl rfl ?_
  refine sIc_gt oI (off := 7) (tgt := 77) (by decide +kernel) (by decide) (fun _ => ?_) (fun _ => ?_)
  · refine sBk (lo' := [(0, vr 7 0), (1, vi v1), (2, vi v2), (3, vi v3)]) (st' := [vi 0]) (μ' := μ) (pc' := 78) [(.iconst 0, 0, 0, 0, 0)] (by decide +kernel) rfl rfl ?_
    refine sWk (lo' := [(0, vr 7 0), (2, vi v2), (3, vi v3)]) [0, 2, 3] rfl ?_
    exact X6_addNumber_J78_ok v2 v3 0 μ
  · refine sBk (lo' := [(0, vr 7 0), (1, vi v1), (2, vi v2), (3, vi v3)]) (st' := [vi 1]) (μ' := μ) (pc' := 74) [(.iconst 1, 0, 0, 1, 0)] (by decide +kernel) rfl rfl ?_
    refine sGt (off := 4) (tgt := 78) (by decide +kernel) (by decide) ?_
    refine sWk (lo' := [(0, vr 7 0), (2, vi v2), (3, vi v3)]) [0, 2, 3] rfl ?_
    exact X6_addNumber_J78_ok v2 v3 1 μ
def X6_addNumber_L2 : Nat → Int32 → Int32 → Int32 → sM → Option (Int32 × sM)
  | 0, _, _, _, _ => none
  | n + 1, v1, v2, v3, μ =>
    if v2 ≤ v3 then
      X6_addNumber_J66 v1 v2 v3 μ
    else
      if inb v3 900 = true then
        bI (X6_isDigit (rI μ 35 0 (ix v3)) μ) fun x1 μ2 =>
          if x1 = 0 then
            X6_addNumber_J66 v1 v2 v3 μ2
          else
            if 4 ≤ (v3 - v1) then
              X6_addNumber_J60 (X6_addNumber_L2 n) v1 v2 v3 μ2
            else
              if inb (rI μ2 7 0 8) 901 = true then
                if inb v3 900 = true then
                  if inb (rI μ2 7 0 8) 901 = true then
                    X6_addNumber_J60 (X6_addNumber_L2 n) v1 v2 v3 (wL μ2 38 0 (ix (rI μ2 7 0 8)) ((((rL μ2 38 0 (ix (rI μ2 7 0 8))) * 10) + (Int32.toInt64 (rI μ2 35 0 (ix v3)))) - 48))
                  else none
                else none
              else none
      else none
theorem X6_addNumber_L2_ok : ∀ (n : Nat) (v1 : Int32) (v2 : Int32) (v3 : Int32) (μ : sM), sOk 6 cX6_addNumber 5 2 false 2 [(0, vr 7 0), (1, vi v1), (2, vi v2), (3, vi v3)] [] μ (oI (X6_addNumber_L2 n v1 v2 v3 μ)) := by
  intro n
  induction n with
  | zero =>
    intros
    exact sNo
  | succ n ih =>
    intro v1 v2 v3 μ
    unfold X6_addNumber_L2
    refine sBk (lo' := [(0, vr 7 0), (1, vi v1), (2, vi v2), (3, vi v3)]) (st' := [vi v2, vi v3]) (μ' := μ) (pc' := 4) [(.iload_n 3, 0, 0, 0, 0), (.iload_n 2, 0, 0, 0, 0)] (by decide +kernel) rfl rfl ?_
    refine sIc_ge oI (off := 62) (tgt := 66) (by decide +kernel) (by decide) (fun _ => ?_) (fun _ => ?_)
    · exact X6_addNumber_J66_ok v1 v2 v3 μ
    · refine sBk (lo' := [(0, vr 7 0), (1, vi v1), (2, vi v2), (3, vi v3)]) (st' := [vi v3, vr 35 0]) (μ' := μ) (pc' := 12) [(.aload_n 0, 0, 0, 0, 0), (.getfield 9, 6, 0, 0, 0), (.iload_n 3, 0, 0, 0, 0)] (by decide +kernel) rfl rfl ?_
      refine sS_bal oI rfl (n := 900) (j := (ix v3)) (by decide +kernel) rfl rfl rfl (fun _ => ?_)
      refine sCsI oI rfl (avs := [vi (rI μ 35 0 (ix v3))]) (rest := []) (tX6_isDigit (rI μ 35 0 (ix v3)) μ) (by decide) (by decide +kernel) lk_6_83 ys_X6_isDigit rfl rfl (Nat.le_of_ble_eq_true rfl) (fun x1 μ2 => ?_)
      refine sIf_eq oI (off := 50) (tgt := 66) (by decide +kernel) (by decide) (fun _ => ?_) (fun _ => ?_)
      · exact X6_addNumber_J66_ok v1 v2 v3 μ2
      · refine sBk (lo' := [(0, vr 7 0), (1, vi v1), (2, vi v2), (3, vi v3)]) (st' := [vi 4, vi (v3 - v1)]) (μ' := μ2) (pc' := 23) [(.iload_n 3, 0, 0, 0, 0), (.iload_n 1, 0, 0, 0, 0), (.isub, 0, 0, 0, 0), (.iconst 4, 0, 0, 4, 0)] (by decide +kernel) rfl rfl ?_
        refine sIc_ge oI (off := 37) (tgt := 60) (by decide +kernel) (by decide) (fun _ => ?_) (fun _ => ?_)
        · exact X6_addNumber_J60_ok ih v1 v2 v3 μ2
        · refine sBk (lo' := [(0, vr 7 0), (1, vi v1), (2, vi v2), (3, vi v3)]) (st' := [vi (rI μ2 7 0 8), vr 38 0, vi (rI μ2 7 0 8), vr 38 0]) (μ' := μ2) (pc' := 42) [(.aload_n 0, 0, 0, 0, 0), (.getfield 29, 6, 11, 0, 0), (.aload_n 0, 0, 0, 0, 0), (.getfield 42, 6, 8, 0, 0), (.aload_n 0, 0, 0, 0, 0), (.getfield 29, 6, 11, 0, 0), (.aload_n 0, 0, 0, 0, 0), (.getfield 42, 6, 8, 0, 0)] (by decide +kernel) rfl rfl ?_
          refine sS_lal oI rfl (n := 901) (j := (ix (rI μ2 7 0 8))) (by decide +kernel) rfl rfl rfl (fun _ => ?_)
          refine sBk (lo' := [(0, vr 7 0), (1, vi v1), (2, vi v2), (3, vi v3)]) (st' := [vi v3, vr 35 0, vl ((rL μ2 38 0 (ix (rI μ2 7 0 8))) * 10), vi (rI μ2 7 0 8), vr 38 0]) (μ' := μ2) (pc' := 52) [(.ldc2_w 113, 0, 0, 0, 10), (.lmul, 0, 0, 0, 0), (.aload_n 0, 0, 0, 0, 0), (.getfield 9, 6, 0, 0, 0), (.iload_n 3, 0, 0, 0, 0)] (by decide +kernel) rfl rfl ?_
          refine sS_bal oI rfl (n := 900) (j := (ix v3)) (by decide +kernel) rfl rfl rfl (fun _ => ?_)
          refine sBk (lo' := [(0, vr 7 0), (1, vi v1), (2, vi v2), (3, vi v3)]) (st' := [vl ((((rL μ2 38 0 (ix (rI μ2 7 0 8))) * 10) + (Int32.toInt64 (rI μ2 35 0 (ix v3)))) - 48), vi (rI μ2 7 0 8), vr 38 0]) (μ' := μ2) (pc' := 59) [(.i2l, 0, 0, 0, 0), (.ladd, 0, 0, 0, 0), (.ldc2_w 115, 0, 0, 0, 48), (.lsub, 0, 0, 0, 0)] (by decide +kernel) rfl rfl ?_
          refine sS_las oI rfl (n := 901) (j := (ix (rI μ2 7 0 8))) (by decide +kernel) rfl rfl rfl (fun _ => ?_)
          exact X6_addNumber_J60_ok ih v1 v2 v3 (wL μ2 38 0 (ix (rI μ2 7 0 8)) ((((rL μ2 38 0 (ix (rI μ2 7 0 8))) * 10) + (Int32.toInt64 (rI μ2 35 0 (ix v3)))) - 48))
def X6_addNumber (a1 : Int32) (a2 : Int32) (μ : sM) : Option (Int32 × sM) :=
  X6_addNumber_L2 fuN a1 a2 a1 μ
theorem tX6_addNumber (a1 : Int32) (a2 : Int32) (μ : sM) : sMt yX6_addNumber cX6_addNumber 5 (some .int) 2 [vr 7 0, vi a1, vi a2] μ (oI (X6_addNumber a1 a2 μ)) := by
  refine sMt_of (own := 6) (bl := false) (by decide +kernel) rfl (Nat.le_of_ble_eq_true rfl) (fun r ρ h => ?_) ?_
  · obtain ⟨q, -, hq⟩ := Option.map_eq_some_iff.mp h
    cases hq
    exact Or.inl rfl
  · unfold X6_addNumber
    show sOk 6 cX6_addNumber 5 2 false 0 [(0, vr 7 0), (1, vi a1), (2, vi a2)] [] μ _
    refine sBk (lo' := [(3, vi a1), (0, vr 7 0), (1, vi a1), (2, vi a2)]) (st' := []) (μ' := μ) (pc' := 2) [(.iload_n 1, 0, 0, 0, 0), (.istore_n 3, 0, 0, 0, 0)] (by decide +kernel) rfl rfl ?_
    refine sWk (lo' := [(0, vr 7 0), (1, vi a1), (2, vi a2), (3, vi a1)]) [1, 2, 3, 0] rfl ?_
    exact X6_addNumber_L2_ok fuN a1 a2 a1 μ
/-! ClockRiver$Tape.addSign -/
def X6_addSign_J58 (v1 : Int32) (v2 : Int32) (v3 : Int32) (v4 : Int32) (s0 : Int32) (s1 : Int32) (μ : sM) : Option (Int32 × sM) :=
  if inb s1 901 = true then
    if inb (rI μ 7 0 8) 901 = true then
      if v4 = 0 then
        some ((v2 + 1), wL (wI μ 36 0 (ix s1) s0) 38 0 (ix (rI μ 7 0 8)) (Int32.toInt64 v3))
      else
        some ((v1 + 1), wL (wI μ 36 0 (ix s1) s0) 38 0 (ix (rI μ 7 0 8)) (Int32.toInt64 v3))
    else none
  else none
theorem X6_addSign_J58_ok (v1 : Int32) (v2 : Int32) (v3 : Int32) (v4 : Int32) (s0 : Int32) (s1 : Int32) (μ : sM) : sOk 6 cX6_addSign 5 1 false 58 [(0, vr 7 0), (1, vi v1), (2, vi v2), (3, vi v3), (4, vi v4)] [vi s0, vi s1, vr 36 0] μ (oI (X6_addSign_J58 v1 v2 v3 v4 s0 s1 μ)) := by
  unfold X6_addSign_J58
  refine sS_ias oI rfl (n := 901) (j := (ix s1)) (by decide +kernel) rfl rfl rfl (fun _ => ?_)
  refine sBk (lo' := [(0, vr 7 0), (1, vi v1), (2, vi v2), (3, vi v3), (4, vi v4)]) (st' := [vl (Int32.toInt64 v3), vi (rI μ 7 0 8), vr 38 0]) (μ' := wI μ 36 0 (ix s1) s0) (pc' := 69) [(.aload_n 0, 0, 0, 0, 0), (.getfield 29, 6, 11, 0, 0), (.aload_n 0, 0, 0, 0, 0), (.getfield 42, 6, 8, 0, 0), (.iload_n 3, 0, 0, 0, 0), (.i2l, 0, 0, 0, 0)] (by decide +kernel) rfl rfl ?_
  refine sS_las oI rfl (n := 901) (j := (ix (rI μ 7 0 8))) (by decide +kernel) rfl rfl rfl (fun _ => ?_)
  refine sBk (lo' := [(0, vr 7 0), (1, vi v1), (2, vi v2), (3, vi v3), (4, vi v4)]) (st' := [vi v4]) (μ' := wL (wI μ 36 0 (ix s1) s0) 38 0 (ix (rI μ 7 0 8)) (Int32.toInt64 v3)) (pc' := 72) [(.iload 4, 0, 0, 0, 0)] (by decide +kernel) rfl rfl ?_
  refine sIf_eq oI (off := 9) (tgt := 81) (by decide +kernel) (by decide) (fun _ => ?_) (fun _ => ?_)
  · refine sBk (lo' := [(0, vr 7 0), (1, vi v1), (2, vi v2), (3, vi v3), (4, vi v4)]) (st' := [vi (v2 + 1)]) (μ' := wL (wI μ 36 0 (ix s1) s0) 38 0 (ix (rI μ 7 0 8)) (Int32.toInt64 v3)) (pc' := 84) [(.iload_n 2, 0, 0, 0, 0), (.iconst 1, 0, 0, 1, 0), (.iadd, 0, 0, 0, 0)] (by decide +kernel) rfl rfl ?_
    exact sRi (by decide +kernel) (fun h => by cases h)
  · refine sBk (lo' := [(0, vr 7 0), (1, vi v1), (2, vi v2), (3, vi v3), (4, vi v4)]) (st' := [vi (v1 + 1)]) (μ' := wL (wI μ 36 0 (ix s1) s0) 38 0 (ix (rI μ 7 0 8)) (Int32.toInt64 v3)) (pc' := 78) [(.iload_n 1, 0, 0, 0, 0), (.iconst 1, 0, 0, 1, 0), (.iadd, 0, 0, 0, 0)] (by decide +kernel) rfl rfl ?_
    refine sGt (off := 6) (tgt := 84) (by decide +kernel) (by decide) ?_
    exact sRi (by decide +kernel) (fun h => by cases h)
def X6_addSign_J36 (v1 : Int32) (v2 : Int32) (v3 : Int32) (s0 : Int32) (μ : sM) : Option (Int32 × sM) :=
  if s0 = 0 then
    X6_addSign_J58 v1 v2 v3 s0 31 (rI μ 7 0 8) μ
  else
    X6_addSign_J58 v1 v2 v3 s0 30 (rI μ 7 0 8) μ
theorem X6_addSign_J36_ok (v1 : Int32) (v2 : Int32) (v3 : Int32) (s0 : Int32) (μ : sM) : sOk 6 cX6_addSign 5 1 false 36 [(0, vr 7 0), (1, vi v1), (2, vi v2), (3, vi v3)] [vi s0] μ (oI (X6_addSign_J36 v1 v2 v3 s0 μ)) := by
  unfold X6_addSign_J36
  refine sBk (lo' := [(4, vi s0), (0, vr 7 0), (1, vi v1), (2, vi v2), (3, vi v3)]) (st' := [vi s0, vi (rI μ 7 0 8), vr 36 0]) (μ' := μ) (pc' := 48) [(.istore 4, 0, 0, 0, 0), (.aload_n 0, 0, 0, 0, 0), (.getfield 22, 6, 9, 0, 0), (.aload_n 0, 0, 0, 0, 0), (.getfield 42, 6, 8, 0, 0), (.iload 4, 0, 0, 0, 0)] (by decide +kernel) rfl rfl ?_
  refine sIf_eq oI (off := 8) (tgt := 56) (by decide +kernel) (by decide) (fun _ => ?_) (fun _ => ?_)
  · refine sBk (lo' := [(4, vi s0), (0, vr 7 0), (1, vi v1), (2, vi v2), (3, vi v3)]) (st' := [vi 31, vi (rI μ 7 0 8), vr 36 0]) (μ' := μ) (pc' := 58) [(.bipush 31, 0, 0, 31, 0)] (by decide +kernel) rfl rfl ?_
    refine sWk (lo' := [(0, vr 7 0), (1, vi v1), (2, vi v2), (3, vi v3), (4, vi s0)]) [1, 2, 3, 4, 0] rfl ?_
    exact X6_addSign_J58_ok v1 v2 v3 s0 31 (rI μ 7 0 8) μ
  · refine sBk (lo' := [(4, vi s0), (0, vr 7 0), (1, vi v1), (2, vi v2), (3, vi v3)]) (st' := [vi 30, vi (rI μ 7 0 8), vr 36 0]) (μ' := μ) (pc' := 53) [(.bipush 30, 0, 0, 30, 0)] (by decide +kernel) rfl rfl ?_
    refine sGt (off := 5) (tgt := 58) (by decide +kernel) (by decide) ?_
    refine sWk (lo' := [(0, vr 7 0), (1, vi v1), (2, vi v2), (3, vi v3), (4, vi s0)]) [1, 2, 3, 4, 0] rfl ?_
    exact X6_addSign_J58_ok v1 v2 v3 s0 30 (rI μ 7 0 8) μ
def X6_addSign_J31 (v1 : Int32) (v2 : Int32) (v3 : Int32) (μ : sM) : Option (Int32 × sM) :=
  X6_addSign_J36 v1 v2 v3 1 μ
theorem X6_addSign_J31_ok (v1 : Int32) (v2 : Int32) (v3 : Int32) (μ : sM) : sOk 6 cX6_addSign 5 1 false 31 [(0, vr 7 0), (1, vi v1), (2, vi v2), (3, vi v3)] [] μ (oI (X6_addSign_J31 v1 v2 v3 μ)) := by
  unfold X6_addSign_J31
  refine sBk (lo' := [(0, vr 7 0), (1, vi v1), (2, vi v2), (3, vi v3)]) (st' := [vi 1]) (μ' := μ) (pc' := 32) [(.iconst 1, 0, 0, 1, 0)] (by decide +kernel) rfl rfl ?_
  refine sGt (off := 4) (tgt := 36) (by decide +kernel) (by decide) ?_
  exact X6_addSign_J36_ok v1 v2 v3 1 μ
def X6_addSign (a1 : Int32) (a2 : Int32) (μ : sM) : Option (Int32 × sM) :=
  if inb a1 900 = true then
    if (rI μ 35 0 (ix a1)) = 59 then
      X6_addSign_J31 a1 a2 (rI μ 35 0 (ix a1)) μ
    else
      if (rI μ 35 0 (ix a1)) = 60 then
        X6_addSign_J31 a1 a2 (rI μ 35 0 (ix a1)) μ
      else
        if (rI μ 35 0 (ix a1)) = 62 then
          X6_addSign_J31 a1 a2 (rI μ 35 0 (ix a1)) μ
        else
          if (rI μ 35 0 (ix a1)) = 61 then
            X6_addSign_J31 a1 a2 (rI μ 35 0 (ix a1)) μ
          else
            X6_addSign_J36 a1 a2 (rI μ 35 0 (ix a1)) 0 μ
  else none
theorem tX6_addSign (a1 : Int32) (a2 : Int32) (μ : sM) : sMt yX6_addSign cX6_addSign 5 (some .int) 1 [vr 7 0, vi a1, vi a2] μ (oI (X6_addSign a1 a2 μ)) := by
  refine sMt_of (own := 6) (bl := false) (by decide +kernel) rfl (Nat.le_of_ble_eq_true rfl) (fun r ρ h => ?_) ?_
  · obtain ⟨q, -, hq⟩ := Option.map_eq_some_iff.mp h
    cases hq
    exact Or.inl rfl
  · unfold X6_addSign
    show sOk 6 cX6_addSign 5 1 false 0 [(0, vr 7 0), (1, vi a1), (2, vi a2)] [] μ _
    refine sBk (lo' := [(0, vr 7 0), (1, vi a1), (2, vi a2)]) (st' := [vi a1, vr 35 0]) (μ' := μ) (pc' := 5) [(.aload_n 0, 0, 0, 0, 0), (.getfield 9, 6, 0, 0, 0), (.iload_n 1, 0, 0, 0, 0)] (by decide +kernel) rfl rfl ?_
    refine sS_bal oI rfl (n := 900) (j := (ix a1)) (by decide +kernel) rfl rfl rfl (fun _ => ?_)
    refine sBk (lo' := [(3, vi (rI μ 35 0 (ix a1))), (0, vr 7 0), (1, vi a1), (2, vi a2)]) (st' := [vi 59, vi (rI μ 35 0 (ix a1))]) (μ' := μ) (pc' := 10) [(.istore_n 3, 0, 0, 0, 0), (.iload_n 3, 0, 0, 0, 0), (.bipush 59, 0, 0, 59, 0)] (by decide +kernel) rfl rfl ?_
    refine sIc_eq oI (off := 21) (tgt := 31) (by decide +kernel) (by decide) (fun _ => ?_) (fun _ => ?_)
    · refine sWk (lo' := [(0, vr 7 0), (1, vi a1), (2, vi a2), (3, vi (rI μ 35 0 (ix a1)))]) [1, 2, 3, 0] rfl ?_
      exact X6_addSign_J31_ok a1 a2 (rI μ 35 0 (ix a1)) μ
    · refine sBk (lo' := [(3, vi (rI μ 35 0 (ix a1))), (0, vr 7 0), (1, vi a1), (2, vi a2)]) (st' := [vi 60, vi (rI μ 35 0 (ix a1))]) (μ' := μ) (pc' := 16) [(.iload_n 3, 0, 0, 0, 0), (.bipush 60, 0, 0, 60, 0)] (by decide +kernel) rfl rfl ?_
      refine sIc_eq oI (off := 15) (tgt := 31) (by decide +kernel) (by decide) (fun _ => ?_) (fun _ => ?_)
      · refine sWk (lo' := [(0, vr 7 0), (1, vi a1), (2, vi a2), (3, vi (rI μ 35 0 (ix a1)))]) [1, 2, 3, 0] rfl ?_
        exact X6_addSign_J31_ok a1 a2 (rI μ 35 0 (ix a1)) μ
      · refine sBk (lo' := [(3, vi (rI μ 35 0 (ix a1))), (0, vr 7 0), (1, vi a1), (2, vi a2)]) (st' := [vi 62, vi (rI μ 35 0 (ix a1))]) (μ' := μ) (pc' := 22) [(.iload_n 3, 0, 0, 0, 0), (.bipush 62, 0, 0, 62, 0)] (by decide +kernel) rfl rfl ?_
        refine sIc_eq oI (off := 9) (tgt := 31) (by decide +kernel) (by decide) (fun _ => ?_) (fun _ => ?_)
        · refine sWk (lo' := [(0, vr 7 0), (1, vi a1), (2, vi a2), (3, vi (rI μ 35 0 (ix a1)))]) [1, 2, 3, 0] rfl ?_
          exact X6_addSign_J31_ok a1 a2 (rI μ 35 0 (ix a1)) μ
        · refine sBk (lo' := [(3, vi (rI μ 35 0 (ix a1))), (0, vr 7 0), (1, vi a1), (2, vi a2)]) (st' := [vi 61, vi (rI μ 35 0 (ix a1))]) (μ' := μ) (pc' := 28) [(.iload_n 3, 0, 0, 0, 0), (.bipush 61, 0, 0, 61, 0)] (by decide +kernel) rfl rfl ?_
          refine sIc_ne oI (off := 7) (tgt := 35) (by decide +kernel) (by decide) (fun _ => ?_) (fun _ => ?_)
          · refine sBk (lo' := [(3, vi (rI μ 35 0 (ix a1))), (0, vr 7 0), (1, vi a1), (2, vi a2)]) (st' := [vi 0]) (μ' := μ) (pc' := 36) [(.iconst 0, 0, 0, 0, 0)] (by decide +kernel) rfl rfl ?_
            refine sWk (lo' := [(0, vr 7 0), (1, vi a1), (2, vi a2), (3, vi (rI μ 35 0 (ix a1)))]) [1, 2, 3, 0] rfl ?_
            exact X6_addSign_J36_ok a1 a2 (rI μ 35 0 (ix a1)) 0 μ
          · refine sWk (lo' := [(0, vr 7 0), (1, vi a1), (2, vi a2), (3, vi (rI μ 35 0 (ix a1)))]) [1, 2, 3, 0] rfl ?_
            exact X6_addSign_J31_ok a1 a2 (rI μ 35 0 (ix a1)) μ
/-! ClockRiver$Tape.addToken -/
def X6_addToken_J123 (v4 : Int32) (μ : sM) : Option (Int32 × sM) :=
  some (v4, wI μ 7 0 8 ((rI μ 7 0 8) + 1))
theorem X6_addToken_J123_ok (v4 : Int32) (μ : sM) : sOk 6 cX6_addToken 5 8 false 123 [(0, vr 7 0), (4, vi v4)] [] μ (oI (X6_addToken_J123 v4 μ)) := by
  unfold X6_addToken_J123
  refine sBk (lo' := [(0, vr 7 0), (4, vi v4)]) (st' := [vi v4]) (μ' := wI μ 7 0 8 ((rI μ 7 0 8) + 1)) (pc' := 135) [(.aload_n 0, 0, 0, 0, 0), (.dup, 0, 0, 0, 0), (.getfield 42, 6, 8, 0, 0), (.iconst 1, 0, 0, 1, 0), (.iadd, 0, 0, 0, 0), (.putfield 42, 6, 8, 0, 0), (.iload 4, 0, 0, 0, 0)] (by decide +kernel) rfl rfl ?_
  exact sRi (by decide +kernel) (fun h => by cases h)
def X6_addToken_J25 (v2 : Int32) (v3 : Int32) (μ : sM) : Option (Int32 × sM) :=
  if inb (rI μ 7 0 8) 901 = true then
    if inb (rI μ 7 0 8) 901 = true then
      if v3 < v2 then
        if inb v3 900 = true then
          bI (X6_isLetter (rI μ 35 0 (ix v3)) (wL (wI μ 37 0 (ix (rI μ 7 0 8)) v3) 38 0 (ix (rI μ 7 0 8)) 0)) fun x1 μ2 =>
            if x1 = 0 then
              if inb v3 900 = true then
                bI (X6_isDigit (rI μ2 35 0 (ix v3)) μ2) fun x3 μ4 =>
                  if x3 = 0 then
                    bI (X6_addSign v3 v2 μ4) fun x5 μ6 =>
                      X6_addToken_J123 x5 μ6
                  else
                    bI (X6_addNumber v3 v2 μ4) fun x7 μ8 =>
                      X6_addToken_J123 x7 μ8
              else none
            else
              bI (X6_addWord v3 v2 μ2) fun x9 μ10 =>
                X6_addToken_J123 x9 μ10
        else none
      else
        if inb (rI μ 7 0 8) 901 = true then
          X6_addToken_J123 (v2 + 1) (wI (wL (wI μ 37 0 (ix (rI μ 7 0 8)) v3) 38 0 (ix (rI μ 7 0 8)) 0) 36 0 (ix (rI μ 7 0 8)) 32)
        else none
    else none
  else none
theorem X6_addToken_J25_ok (v2 : Int32) (v3 : Int32) (μ : sM) : sOk 6 cX6_addToken 5 8 false 25 [(0, vr 7 0), (2, vi v2), (3, vi v3)] [] μ (oI (X6_addToken_J25 v2 v3 μ)) := by
  unfold X6_addToken_J25
  refine sBk (lo' := [(0, vr 7 0), (2, vi v2), (3, vi v3)]) (st' := [vi v3, vi (rI μ 7 0 8), vr 37 0]) (μ' := μ) (pc' := 34) [(.aload_n 0, 0, 0, 0, 0), (.getfield 26, 6, 10, 0, 0), (.aload_n 0, 0, 0, 0, 0), (.getfield 42, 6, 8, 0, 0), (.iload_n 3, 0, 0, 0, 0)] (by decide +kernel) rfl rfl ?_
  refine sS_ias oI rfl (n := 901) (j := (ix (rI μ 7 0 8))) (by decide +kernel) rfl rfl rfl (fun _ => ?_)
  refine sBk (lo' := [(0, vr 7 0), (2, vi v2), (3, vi v3)]) (st' := [vl 0, vi (rI μ 7 0 8), vr 38 0]) (μ' := wI μ 37 0 (ix (rI μ 7 0 8)) v3) (pc' := 44) [(.aload_n 0, 0, 0, 0, 0), (.getfield 29, 6, 11, 0, 0), (.aload_n 0, 0, 0, 0, 0), (.getfield 42, 6, 8, 0, 0), (.lconst 0, 0, 0, 0, 0)] (by decide +kernel) rfl rfl ?_
  refine sS_las oI rfl (n := 901) (j := (ix (rI μ 7 0 8))) (by decide +kernel) rfl rfl rfl (fun _ => ?_)
  refine sBk (lo' := [(4, vi (v2 + 1)), (0, vr 7 0), (2, vi v2), (3, vi v3)]) (st' := [vi v2, vi v3]) (μ' := wL (wI μ 37 0 (ix (rI μ 7 0 8)) v3) 38 0 (ix (rI μ 7 0 8)) 0) (pc' := 52) [(.iload_n 2, 0, 0, 0, 0), (.iconst 1, 0, 0, 1, 0), (.iadd, 0, 0, 0, 0), (.istore 4, 0, 0, 0, 0), (.iload_n 3, 0, 0, 0, 0), (.iload_n 2, 0, 0, 0, 0)] (by decide +kernel) rfl rfl ?_
  refine sIc_lt oI (off := 17) (tgt := 69) (by decide +kernel) (by decide) (fun _ => ?_) (fun _ => ?_)
  · refine sBk (lo' := [(4, vi (v2 + 1)), (0, vr 7 0), (2, vi v2), (3, vi v3)]) (st' := [vi v3, vr 35 0]) (μ' := wL (wI μ 37 0 (ix (rI μ 7 0 8)) v3) 38 0 (ix (rI μ 7 0 8)) 0) (pc' := 74) [(.aload_n 0, 0, 0, 0, 0), (.getfield 9, 6, 0, 0, 0), (.iload_n 3, 0, 0, 0, 0)] (by decide +kernel) rfl rfl ?_
    refine sS_bal oI rfl (n := 900) (j := (ix v3)) (by decide +kernel) rfl rfl rfl (fun _ => ?_)
    refine sCsI oI rfl (avs := [vi (rI μ 35 0 (ix v3))]) (rest := []) (tX6_isLetter (rI μ 35 0 (ix v3)) (wL (wI μ 37 0 (ix (rI μ 7 0 8)) v3) 38 0 (ix (rI μ 7 0 8)) 0)) (by decide) (by decide +kernel) lk_6_77 ys_X6_isLetter rfl rfl (Nat.le_of_ble_eq_true rfl) (fun x1 μ2 => ?_)
    refine sIf_eq oI (off := 14) (tgt := 92) (by decide +kernel) (by decide) (fun _ => ?_) (fun _ => ?_)
    · refine sBk (lo' := [(4, vi (v2 + 1)), (0, vr 7 0), (2, vi v2), (3, vi v3)]) (st' := [vi v3, vr 35 0]) (μ' := μ2) (pc' := 97) [(.aload_n 0, 0, 0, 0, 0), (.getfield 9, 6, 0, 0, 0), (.iload_n 3, 0, 0, 0, 0)] (by decide +kernel) rfl rfl ?_
      refine sS_bal oI rfl (n := 900) (j := (ix v3)) (by decide +kernel) rfl rfl rfl (fun _ => ?_)
      refine sCsI oI rfl (avs := [vi (rI μ2 35 0 (ix v3))]) (rest := []) (tX6_isDigit (rI μ2 35 0 (ix v3)) μ2) (by decide) (by decide +kernel) lk_6_83 ys_X6_isDigit rfl rfl (Nat.le_of_ble_eq_true rfl) (fun x3 μ4 => ?_)
      refine sIf_eq oI (off := 14) (tgt := 115) (by decide +kernel) (by decide) (fun _ => ?_) (fun _ => ?_)
      · refine sBk (lo' := [(4, vi (v2 + 1)), (0, vr 7 0), (2, vi v2), (3, vi v3)]) (st' := [vi v2, vi v3, vr 7 0]) (μ' := μ4) (pc' := 118) [(.aload_n 0, 0, 0, 0, 0), (.iload_n 3, 0, 0, 0, 0), (.iload_n 2, 0, 0, 0, 0)] (by decide +kernel) rfl rfl ?_
        refine sCvI oI rfl (ci := 6) (q := (7, 0)) (avs := [vi v3, vi v2]) (rest := []) (tX6_addSign v3 v2 μ4) (by decide) (by decide +kernel) lk_6_89 yv_X6_addSign rfl (by decide) rfl rfl rfl (Nat.le_of_ble_eq_true rfl) (fun x5 μ6 => ?_)
        refine sBk (lo' := [(4, vi x5), (0, vr 7 0), (2, vi v2), (3, vi v3)]) (st' := []) (μ' := μ6) (pc' := 123) [(.istore 4, 0, 0, 0, 0)] (by decide +kernel) rfl rfl ?_
        refine sWk (lo' := [(0, vr 7 0), (4, vi x5)]) [1, 0] rfl ?_
        exact X6_addToken_J123_ok x5 μ6
      · refine sBk (lo' := [(4, vi (v2 + 1)), (0, vr 7 0), (2, vi v2), (3, vi v3)]) (st' := [vi v2, vi v3, vr 7 0]) (μ' := μ4) (pc' := 107) [(.aload_n 0, 0, 0, 0, 0), (.iload_n 3, 0, 0, 0, 0), (.iload_n 2, 0, 0, 0, 0)] (by decide +kernel) rfl rfl ?_
        refine sCvI oI rfl (ci := 6) (q := (7, 0)) (avs := [vi v3, vi v2]) (rest := []) (tX6_addNumber v3 v2 μ4) (by decide) (by decide +kernel) lk_6_86 yv_X6_addNumber rfl (by decide) rfl rfl rfl (Nat.le_of_ble_eq_true rfl) (fun x7 μ8 => ?_)
        refine sBk (lo' := [(4, vi x7), (0, vr 7 0), (2, vi v2), (3, vi v3)]) (st' := []) (μ' := μ8) (pc' := 112) [(.istore 4, 0, 0, 0, 0)] (by decide +kernel) rfl rfl ?_
        refine sGt (off := 11) (tgt := 123) (by decide +kernel) (by decide) ?_
        refine sWk (lo' := [(0, vr 7 0), (4, vi x7)]) [1, 0] rfl ?_
        exact X6_addToken_J123_ok x7 μ8
    · refine sBk (lo' := [(4, vi (v2 + 1)), (0, vr 7 0), (2, vi v2), (3, vi v3)]) (st' := [vi v2, vi v3, vr 7 0]) (μ' := μ2) (pc' := 84) [(.aload_n 0, 0, 0, 0, 0), (.iload_n 3, 0, 0, 0, 0), (.iload_n 2, 0, 0, 0, 0)] (by decide +kernel) rfl rfl ?_
      refine sCvI oI rfl (ci := 6) (q := (7, 0)) (avs := [vi v3, vi v2]) (rest := []) (tX6_addWord v3 v2 μ2) (by decide) (by decide +kernel) lk_6_80 yv_X6_addWord rfl (by decide) rfl rfl rfl (Nat.le_of_ble_eq_true rfl) (fun x9 μ10 => ?_)
      refine sBk (lo' := [(4, vi x9), (0, vr 7 0), (2, vi v2), (3, vi v3)]) (st' := []) (μ' := μ10) (pc' := 89) [(.istore 4, 0, 0, 0, 0)] (by decide +kernel) rfl rfl ?_
      refine sGt (off := 34) (tgt := 123) (by decide +kernel) (by decide) ?_
      refine sWk (lo' := [(0, vr 7 0), (4, vi x9)]) [1, 0] rfl ?_
      exact X6_addToken_J123_ok x9 μ10
  · refine sBk (lo' := [(4, vi (v2 + 1)), (0, vr 7 0), (2, vi v2), (3, vi v3)]) (st' := [vi 32, vi (rI μ 7 0 8), vr 36 0]) (μ' := wL (wI μ 37 0 (ix (rI μ 7 0 8)) v3) 38 0 (ix (rI μ 7 0 8)) 0) (pc' := 65) [(.aload_n 0, 0, 0, 0, 0), (.getfield 22, 6, 9, 0, 0), (.aload_n 0, 0, 0, 0, 0), (.getfield 42, 6, 8, 0, 0), (.bipush 32, 0, 0, 32, 0)] (by decide +kernel) rfl rfl ?_
    refine sS_ias oI rfl (n := 901) (j := (ix (rI μ 7 0 8))) (by decide +kernel) rfl rfl rfl (fun _ => ?_)
    refine sGt (off := 57) (tgt := 123) (by decide +kernel) (by decide) ?_
    refine sWk (lo' := [(0, vr 7 0), (4, vi (v2 + 1))]) [1, 0] rfl ?_
    exact X6_addToken_J123_ok (v2 + 1) (wI (wL (wI μ 37 0 (ix (rI μ 7 0 8)) v3) 38 0 (ix (rI μ 7 0 8)) 0) 36 0 (ix (rI μ 7 0 8)) 32)
def X6_addToken_L2 : Nat → Int32 → Int32 → sM → Option (Int32 × sM)
  | 0, _, _, _ => none
  | n + 1, v2, v3, μ =>
    if v2 ≤ v3 then
      X6_addToken_J25 v2 v3 μ
    else
      if inb v3 900 = true then
        bI (X6_isBlank (rI μ 35 0 (ix v3)) μ) fun x1 μ2 =>
          if x1 = 0 then
            X6_addToken_J25 v2 v3 μ2
          else
            X6_addToken_L2 n v2 (v3 + 1) μ2
      else none
theorem X6_addToken_L2_ok : ∀ (n : Nat) (v2 : Int32) (v3 : Int32) (μ : sM), sOk 6 cX6_addToken 5 8 false 2 [(0, vr 7 0), (2, vi v2), (3, vi v3)] [] μ (oI (X6_addToken_L2 n v2 v3 μ)) := by
  intro n
  induction n with
  | zero =>
    intros
    exact sNo
  | succ n ih =>
    intro v2 v3 μ
    unfold X6_addToken_L2
    refine sBk (lo' := [(0, vr 7 0), (2, vi v2), (3, vi v3)]) (st' := [vi v2, vi v3]) (μ' := μ) (pc' := 4) [(.iload_n 3, 0, 0, 0, 0), (.iload_n 2, 0, 0, 0, 0)] (by decide +kernel) rfl rfl ?_
    refine sIc_ge oI (off := 21) (tgt := 25) (by decide +kernel) (by decide) (fun _ => ?_) (fun _ => ?_)
    · exact X6_addToken_J25_ok v2 v3 μ
    · refine sBk (lo' := [(0, vr 7 0), (2, vi v2), (3, vi v3)]) (st' := [vi v3, vr 35 0]) (μ' := μ) (pc' := 12) [(.aload_n 0, 0, 0, 0, 0), (.getfield 9, 6, 0, 0, 0), (.iload_n 3, 0, 0, 0, 0)] (by decide +kernel) rfl rfl ?_
      refine sS_bal oI rfl (n := 900) (j := (ix v3)) (by decide +kernel) rfl rfl rfl (fun _ => ?_)
      refine sCsI oI rfl (avs := [vi (rI μ 35 0 (ix v3))]) (rest := []) (tX6_isBlank (rI μ 35 0 (ix v3)) μ) (by decide) (by decide +kernel) lk_6_74 ys_X6_isBlank rfl rfl (Nat.le_of_ble_eq_true rfl) (fun x1 μ2 => ?_)
      refine sIf_eq oI (off := 9) (tgt := 25) (by decide +kernel) (by decide) (fun _ => ?_) (fun _ => ?_)
      · exact X6_addToken_J25_ok v2 v3 μ2
      · refine sBk (lo' := [(3, vi (v3 + 1)), (0, vr 7 0), (2, vi v2)]) (st' := []) (μ' := μ2) (pc' := 22) [(.iinc 3 1, 0, 0, 1, 0)] (by decide +kernel) rfl rfl ?_
        refine sGt (off := (-20)) (tgt := 2) (by decide +kernel) (by decide) ?_
        refine sWk (lo' := [(0, vr 7 0), (2, vi v2), (3, vi (v3 + 1))]) [1, 2, 0] rfl ?_
        exact ih v2 (v3 + 1) μ2
def X6_addToken (a1 : Int32) (a2 : Int32) (μ : sM) : Option (Int32 × sM) :=
  X6_addToken_L2 fuN a2 a1 μ
theorem tX6_addToken (a1 : Int32) (a2 : Int32) (μ : sM) : sMt yX6_addToken cX6_addToken 5 (some .int) 8 [vr 7 0, vi a1, vi a2] μ (oI (X6_addToken a1 a2 μ)) := by
  refine sMt_of (own := 6) (bl := false) (by decide +kernel) rfl (Nat.le_of_ble_eq_true rfl) (fun r ρ h => ?_) ?_
  · obtain ⟨q, -, hq⟩ := Option.map_eq_some_iff.mp h
    cases hq
    exact Or.inl rfl
  · unfold X6_addToken
    show sOk 6 cX6_addToken 5 8 false 0 [(0, vr 7 0), (1, vi a1), (2, vi a2)] [] μ _
    refine sBk (lo' := [(3, vi a1), (0, vr 7 0), (1, vi a1), (2, vi a2)]) (st' := []) (μ' := μ) (pc' := 2) [(.iload_n 1, 0, 0, 0, 0), (.istore_n 3, 0, 0, 0, 0)] (by decide +kernel) rfl rfl ?_
    refine sWk (lo' := [(0, vr 7 0), (2, vi a2), (3, vi a1)]) [1, 3, 0] rfl ?_
    exact X6_addToken_L2_ok fuN a2 a1 μ
/-! ClockRiver$Tape.begin -/
def X6_begin_J43 (μ : sM) : Option sM :=
  some (wL (wI (wI (wI (wI (wI μ 7 0 1 0) 7 0 2 0) 7 0 3 (-1)) 7 0 7 0) 7 0 4 (rI μ 36 0 0)) 7 0 5 (rL μ 38 0 0))
theorem X6_begin_J43_ok (μ : sM) : sOk 6 cX6_begin 5 9 false 43 [(0, vr 7 0)] [] μ (oV (X6_begin_J43 μ)) := by
  unfold X6_begin_J43
  refine sBk (lo' := [(0, vr 7 0)]) (st' := [vi 0, vr 36 0, vr 7 0]) (μ' := wI (wI (wI (wI μ 7 0 1 0) 7 0 2 0) 7 0 3 (-1)) 7 0 7 0) (pc' := 69) [(.aload_n 0, 0, 0, 0, 0), (.iconst 0, 0, 0, 0, 0), (.putfield 33, 6, 1, 0, 0), (.aload_n 0, 0, 0, 0, 0), (.iconst 0, 0, 0, 0, 0), (.putfield 15, 6, 2, 0, 0), (.aload_n 0, 0, 0, 0, 0), (.iconst (-1), 0, 0, (-1), 0), (.putfield 19, 6, 3, 0, 0), (.aload_n 0, 0, 0, 0, 0), (.iconst 0, 0, 0, 0, 0), (.putfield 48, 6, 7, 0, 0), (.aload_n 0, 0, 0, 0, 0), (.aload_n 0, 0, 0, 0, 0), (.getfield 22, 6, 9, 0, 0), (.iconst 0, 0, 0, 0, 0)] (by decide +kernel) rfl rfl ?_
  refine sC_ial (n := 901) (j := 0) (by decide +kernel) (by decide +kernel) rfl rfl (by decide +kernel) ?_
  refine sBk (lo' := [(0, vr 7 0)]) (st' := [vi 0, vr 38 0, vr 7 0]) (μ' := wI (wI (wI (wI (wI μ 7 0 1 0) 7 0 2 0) 7 0 3 (-1)) 7 0 7 0) 7 0 4 (rI μ 36 0 0)) (pc' := 79) [(.putfield 51, 6, 4, 0, 0), (.aload_n 0, 0, 0, 0, 0), (.aload_n 0, 0, 0, 0, 0), (.getfield 29, 6, 11, 0, 0), (.iconst 0, 0, 0, 0, 0)] (by decide +kernel) rfl rfl ?_
  refine sC_lal (n := 901) (j := 0) (by decide +kernel) (by decide +kernel) rfl rfl (by decide +kernel) ?_
  refine sBk (lo' := [(0, vr 7 0)]) (st' := []) (μ' := wL (wI (wI (wI (wI (wI μ 7 0 1 0) 7 0 2 0) 7 0 3 (-1)) 7 0 7 0) 7 0 4 (rI μ 36 0 0)) 7 0 5 (rL μ 38 0 0)) (pc' := 83) [(.putfield 54, 6, 5, 0, 0)] (by decide +kernel) rfl rfl ?_
  exact sRv (by decide +kernel)
def X6_begin_L19 : Nat → Int32 → Int32 → Int32 → sM → Option sM
  | 0, _, _, _, _ => none
  | n + 1, v2, v3, v4, μ =>
    if v2 < v4 then
      X6_begin_J43 μ
    else
      if v2 < v3 then
        X6_begin_J43 μ
      else
        bI (X6_addToken v3 v2 μ) fun x1 μ2 =>
          X6_begin_L19 n v2 x1 (v4 + 1) μ2
theorem X6_begin_L19_ok : ∀ (n : Nat) (v2 : Int32) (v3 : Int32) (v4 : Int32) (μ : sM), sOk 6 cX6_begin 5 9 false 19 [(0, vr 7 0), (2, vi v2), (3, vi v3), (4, vi v4)] [] μ (oV (X6_begin_L19 n v2 v3 v4 μ)) := by
  intro n
  induction n with
  | zero =>
    intros
    exact sNo
  | succ n ih =>
    intro v2 v3 v4 μ
    unfold X6_begin_L19
    refine sBk (lo' := [(0, vr 7 0), (2, vi v2), (3, vi v3), (4, vi v4)]) (st' := [vi v2, vi v4]) (μ' := μ) (pc' := 22) [(.iload 4, 0, 0, 0, 0), (.iload_n 2, 0, 0, 0, 0)] (by decide +kernel) rfl rfl ?_
    refine sIc_gt oV (off := 21) (tgt := 43) (by decide +kernel) (by decide) (fun _ => ?_) (fun _ => ?_)
    · refine sWk (lo' := [(0, vr 7 0)]) [0] rfl ?_
      exact X6_begin_J43_ok μ
    · refine sBk (lo' := [(0, vr 7 0), (2, vi v2), (3, vi v3), (4, vi v4)]) (st' := [vi v2, vi v3]) (μ' := μ) (pc' := 27) [(.iload_n 3, 0, 0, 0, 0), (.iload_n 2, 0, 0, 0, 0)] (by decide +kernel) rfl rfl ?_
      refine sIc_gt oV (off := 16) (tgt := 43) (by decide +kernel) (by decide) (fun _ => ?_) (fun _ => ?_)
      · refine sWk (lo' := [(0, vr 7 0)]) [0] rfl ?_
        exact X6_begin_J43_ok μ
      · refine sBk (lo' := [(0, vr 7 0), (2, vi v2), (3, vi v3), (4, vi v4)]) (st' := [vi v2, vi v3, vr 7 0]) (μ' := μ) (pc' := 33) [(.aload_n 0, 0, 0, 0, 0), (.iload_n 3, 0, 0, 0, 0), (.iload_n 2, 0, 0, 0, 0)] (by decide +kernel) rfl rfl ?_
        refine sCvI oV rfl (ci := 6) (q := (7, 0)) (avs := [vi v3, vi v2]) (rest := []) (tX6_addToken v3 v2 μ) (by decide) (by decide +kernel) lk_6_45 yv_X6_addToken rfl (by decide) rfl rfl rfl (Nat.le_of_ble_eq_true rfl) (fun x1 μ2 => ?_)
        refine sBk (lo' := [(4, vi (v4 + 1)), (3, vi x1), (0, vr 7 0), (2, vi v2)]) (st' := []) (μ' := μ2) (pc' := 40) [(.istore_n 3, 0, 0, 0, 0), (.iinc 4 1, 0, 0, 1, 0)] (by decide +kernel) rfl rfl ?_
        refine sGt (off := (-21)) (tgt := 19) (by decide +kernel) (by decide) ?_
        refine sWk (lo' := [(0, vr 7 0), (2, vi v2), (3, vi x1), (4, vi (v4 + 1))]) [2, 3, 1, 0] rfl ?_
        exact ih v2 x1 (v4 + 1) μ2
def X6_begin (a1 : Int32) (μ : sM) : Option sM :=
  X6_begin_L19 fuN (imn a1 (rI μ 7 0 1)) 0 0 (wI μ 7 0 8 0)
theorem tX6_begin (a1 : Int32) (μ : sM) : sMt yX6_begin cX6_begin 5 none 9 [vr 7 0, vi a1] μ (oV (X6_begin a1 μ)) := by
  refine sMt_of (own := 6) (bl := false) (by decide +kernel) rfl (Nat.le_of_ble_eq_true rfl) (fun r ρ h => ?_) ?_
  · obtain ⟨q, -, hq⟩ := Option.map_eq_some_iff.mp h
    cases hq
    exact rfl
  · unfold X6_begin
    show sOk 6 cX6_begin 5 9 false 0 [(0, vr 7 0), (1, vi a1)] [] μ _
    refine sBk (lo' := [(0, vr 7 0), (1, vi a1)]) (st' := [vi (rI μ 7 0 1), vi a1]) (μ' := μ) (pc' := 5) [(.iload_n 1, 0, 0, 0, 0), (.aload_n 0, 0, 0, 0, 0), (.getfield 33, 6, 1, 0, 0)] (by decide +kernel) rfl rfl ?_
    refine sMin (idx := 36) (p1 := 753) (by decide +kernel) (by decide) (Nat.le_of_ble_eq_true rfl) ?_
    refine sBk (lo' := [(4, vi 0), (3, vi 0), (2, vi (imn a1 (rI μ 7 0 1))), (0, vr 7 0), (1, vi a1)]) (st' := []) (μ' := wI μ 7 0 8 0) (pc' := 19) [(.istore_n 2, 0, 0, 0, 0), (.iconst 0, 0, 0, 0, 0), (.istore_n 3, 0, 0, 0, 0), (.aload_n 0, 0, 0, 0, 0), (.iconst 0, 0, 0, 0, 0), (.putfield 42, 6, 8, 0, 0), (.iconst 0, 0, 0, 0, 0), (.istore 4, 0, 0, 0, 0)] (by decide +kernel) rfl rfl ?_
    refine sWk (lo' := [(0, vr 7 0), (2, vi (imn a1 (rI μ 7 0 1))), (3, vi 0), (4, vi 0)]) [3, 2, 1, 0] rfl ?_
    exact X6_begin_L19_ok fuN (imn a1 (rI μ 7 0 1)) 0 0 (wI μ 7 0 8 0)
/-! ClockRiver$Tape.fail -/
def X6_fail (a1 : Int32) (μ : sM) : Option (Int32 × sM) :=
  if inb (rI μ 7 0 7) 901 = true then
    some (0, wI (wI μ 7 0 2 a1) 7 0 3 (rI μ 37 0 (ix (rI μ 7 0 7))))
  else none
theorem tX6_fail (a1 : Int32) (μ : sM) : sMt yX6_fail cX6_fail 2 (some .boolean) 1 [vr 7 0, vi a1] μ (oI (X6_fail a1 μ)) := by
  refine sMt_of (own := 6) (bl := true) (by decide +kernel) rfl (Nat.le_of_ble_eq_true rfl) (fun r ρ h => ?_) ?_
  · obtain ⟨q, -, hq⟩ := Option.map_eq_some_iff.mp h
    cases hq
    exact Or.inr ⟨rfl, rfl⟩
  · unfold X6_fail
    show sOk 6 cX6_fail 2 1 true 0 [(0, vr 7 0), (1, vi a1)] [] μ _
    refine sBk (lo' := [(0, vr 7 0), (1, vi a1)]) (st' := [vi (rI μ 7 0 7), vr 37 0, vr 7 0]) (μ' := wI μ 7 0 2 a1) (pc' := 14) [(.aload_n 0, 0, 0, 0, 0), (.iload_n 1, 0, 0, 0, 0), (.putfield 15, 6, 2, 0, 0), (.aload_n 0, 0, 0, 0, 0), (.aload_n 0, 0, 0, 0, 0), (.getfield 26, 6, 10, 0, 0), (.aload_n 0, 0, 0, 0, 0), (.getfield 48, 6, 7, 0, 0)] (by decide +kernel) rfl rfl ?_
    refine sS_ial oI rfl (n := 901) (j := (ix (rI μ 7 0 7))) (by decide +kernel) rfl rfl rfl (fun _ => ?_)
    refine sBk (lo' := [(0, vr 7 0), (1, vi a1)]) (st' := [vi 0]) (μ' := wI (wI μ 7 0 2 a1) 7 0 3 (rI μ 37 0 (ix (rI μ 7 0 7)))) (pc' := 19) [(.putfield 19, 6, 3, 0, 0), (.iconst 0, 0, 0, 0, 0)] (by decide +kernel) rfl rfl ?_
    exact sRi (by decide +kernel) (fun _ => Or.inl rfl)
/-! ClockRiver$Tape.advance -/
def X6_advance (μ : sM) : Option sM :=
  if ((rI μ 7 0 8) - 1) ≤ (rI μ 7 0 7) then
    some μ
  else
    if inb ((rI μ 7 0 7) + 1) 901 = true then
      if inb ((rI μ 7 0 7) + 1) 901 = true then
        some (wL (wI (wI μ 7 0 7 ((rI μ 7 0 7) + 1)) 7 0 4 (rI μ 36 0 (ix ((rI μ 7 0 7) + 1)))) 7 0 5 (rL μ 38 0 (ix ((rI μ 7 0 7) + 1))))
      else none
    else none
theorem tX6_advance (μ : sM) : sMt yX6_advance cX6_advance 1 none 1 [vr 7 0] μ (oV (X6_advance μ)) := by
  refine sMt_of (own := 6) (bl := false) (by decide +kernel) rfl (Nat.le_of_ble_eq_true rfl) (fun r ρ h => ?_) ?_
  · obtain ⟨q, -, hq⟩ := Option.map_eq_some_iff.mp h
    cases hq
    exact rfl
  · unfold X6_advance
    show sOk 6 cX6_advance 1 1 false 0 [(0, vr 7 0)] [] μ _
    refine sBk (lo' := [(0, vr 7 0)]) (st' := [vi ((rI μ 7 0 8) - 1), vi (rI μ 7 0 7)]) (μ' := μ) (pc' := 10) [(.aload_n 0, 0, 0, 0, 0), (.getfield 48, 6, 7, 0, 0), (.aload_n 0, 0, 0, 0, 0), (.getfield 42, 6, 8, 0, 0), (.iconst 1, 0, 0, 1, 0), (.isub, 0, 0, 0, 0)] (by decide +kernel) rfl rfl ?_
    refine sIc_ge oV (off := 39) (tgt := 49) (by decide +kernel) (by decide) (fun _ => ?_) (fun _ => ?_)
    · exact sRv (by decide +kernel)
    · refine sBk (lo' := [(0, vr 7 0)]) (st' := [vi ((rI μ 7 0 7) + 1), vr 36 0, vr 7 0]) (μ' := wI μ 7 0 7 ((rI μ 7 0 7) + 1)) (pc' := 32) [(.aload_n 0, 0, 0, 0, 0), (.dup, 0, 0, 0, 0), (.getfield 48, 6, 7, 0, 0), (.iconst 1, 0, 0, 1, 0), (.iadd, 0, 0, 0, 0), (.putfield 48, 6, 7, 0, 0), (.aload_n 0, 0, 0, 0, 0), (.aload_n 0, 0, 0, 0, 0), (.getfield 22, 6, 9, 0, 0), (.aload_n 0, 0, 0, 0, 0), (.getfield 48, 6, 7, 0, 0)] (by decide +kernel) rfl rfl ?_
      refine sS_ial oV rfl (n := 901) (j := (ix ((rI μ 7 0 7) + 1))) (by decide +kernel) rfl rfl rfl (fun _ => ?_)
      refine sBk (lo' := [(0, vr 7 0)]) (st' := [vi ((rI μ 7 0 7) + 1), vr 38 0, vr 7 0]) (μ' := wI (wI μ 7 0 7 ((rI μ 7 0 7) + 1)) 7 0 4 (rI μ 36 0 (ix ((rI μ 7 0 7) + 1)))) (pc' := 45) [(.putfield 51, 6, 4, 0, 0), (.aload_n 0, 0, 0, 0, 0), (.aload_n 0, 0, 0, 0, 0), (.getfield 29, 6, 11, 0, 0), (.aload_n 0, 0, 0, 0, 0), (.getfield 48, 6, 7, 0, 0)] (by decide +kernel) rfl rfl ?_
      refine sS_lal oV rfl (n := 901) (j := (ix ((rI μ 7 0 7) + 1))) (by decide +kernel) rfl rfl rfl (fun _ => ?_)
      refine sBk (lo' := [(0, vr 7 0)]) (st' := []) (μ' := wL (wI (wI μ 7 0 7 ((rI μ 7 0 7) + 1)) 7 0 4 (rI μ 36 0 (ix ((rI μ 7 0 7) + 1)))) 7 0 5 (rL μ 38 0 (ix ((rI μ 7 0 7) + 1)))) (pc' := 49) [(.putfield 54, 6, 5, 0, 0)] (by decide +kernel) rfl rfl ?_
      exact sRv (by decide +kernel)
/-! ClockRiver$Tape.failToStand -/
def X6_failToStand_J15 (s0 : Int32) (μ : sM) : Option (Int32 × sM) :=
  bI (X6_fail s0 μ) fun x1 μ2 =>
    if x1 = 0 ∨ x1 = 1 then some (x1, μ2) else none
theorem X6_failToStand_J15_ok (s0 : Int32) (μ : sM) : sOk 6 cX6_failToStand 1 2 true 15 [] [vi s0, vr 7 0] μ (oI (X6_failToStand_J15 s0 μ)) := by
  unfold X6_failToStand_J15
  refine sCvI oI rfl (ci := 6) (q := (7, 0)) (avs := [vi s0]) (rest := []) (tX6_fail s0 μ) (by decide) (by decide +kernel) lk_6_58 yv_X6_fail rfl (by decide) rfl rfl rfl (Nat.le_of_ble_eq_true rfl) (fun x1 μ2 => ?_)
  exact sCk oI rfl (fun h => sRi (by decide +kernel) (fun _ => h))
def X6_failToStand (μ : sM) : Option (Int32 × sM) :=
  if (rI μ 7 0 4) = 31 then
    X6_failToStand_J15 1 μ
  else
    X6_failToStand_J15 2 μ
theorem tX6_failToStand (μ : sM) : sMt yX6_failToStand cX6_failToStand 1 (some .boolean) 2 [vr 7 0] μ (oI (X6_failToStand μ)) := by
  refine sMt_of (own := 6) (bl := true) (by decide +kernel) rfl (Nat.le_of_ble_eq_true rfl) (fun r ρ h => ?_) ?_
  · obtain ⟨q, -, hq⟩ := Option.map_eq_some_iff.mp h
    cases hq
    exact Or.inr ⟨rfl, rfl⟩
  · unfold X6_failToStand
    show sOk 6 cX6_failToStand 1 2 true 0 [(0, vr 7 0)] [] μ _
    refine sBk (lo' := [(0, vr 7 0)]) (st' := [vi 31, vi (rI μ 7 0 4), vr 7 0]) (μ' := μ) (pc' := 7) [(.aload_n 0, 0, 0, 0, 0), (.aload_n 0, 0, 0, 0, 0), (.getfield 51, 6, 4, 0, 0), (.bipush 31, 0, 0, 31, 0)] (by decide +kernel) rfl rfl ?_
    refine sIc_ne oI (off := 7) (tgt := 14) (by decide +kernel) (by decide) (fun _ => ?_) (fun _ => ?_)
    · refine sBk (lo' := [(0, vr 7 0)]) (st' := [vi 2, vr 7 0]) (μ' := μ) (pc' := 15) [(.iconst 2, 0, 0, 2, 0)] (by decide +kernel) rfl rfl ?_
      refine sWk (lo' := []) [] rfl ?_
      exact X6_failToStand_J15_ok 2 μ
    · refine sBk (lo' := [(0, vr 7 0)]) (st' := [vi 1, vr 7 0]) (μ' := μ) (pc' := 11) [(.iconst 1, 0, 0, 1, 0)] (by decide +kernel) rfl rfl ?_
      refine sGt (off := 4) (tgt := 15) (by decide +kernel) (by decide) ?_
      refine sWk (lo' := []) [] rfl ?_
      exact X6_failToStand_J15_ok 1 μ
/-! ClockRiver$Tape.takeNumber -/
def X6_takeNumber_J34 (μ : sM) : Option (Int32 × sM) :=
  bI (X6_fail 4 μ) fun x1 μ2 =>
    if x1 = 0 ∨ x1 = 1 then some (x1, μ2) else none
theorem X6_takeNumber_J34_ok (μ : sM) : sOk 6 cX6_takeNumber 3 3 true 34 [(0, vr 7 0)] [] μ (oI (X6_takeNumber_J34 μ)) := by
  unfold X6_takeNumber_J34
  refine sBk (lo' := [(0, vr 7 0)]) (st' := [vi 4, vr 7 0]) (μ' := μ) (pc' := 36) [(.aload_n 0, 0, 0, 0, 0), (.iconst 4, 0, 0, 4, 0)] (by decide +kernel) rfl rfl ?_
  refine sCvI oI rfl (ci := 6) (q := (7, 0)) (avs := [vi 4]) (rest := []) (tX6_fail 4 μ) (by decide) (by decide +kernel) lk_6_58 yv_X6_fail rfl (by decide) rfl rfl rfl (Nat.le_of_ble_eq_true rfl) (fun x1 μ2 => ?_)
  exact sCk oI rfl (fun h => sRi (by decide +kernel) (fun _ => h))
def X6_takeNumber (a1 : Int32) (a2 : Int32) (μ : sM) : Option (Int32 × sM) :=
  if (rI μ 7 0 4) = 29 then
    if (lg_cmp (rL μ 7 0 5) (Int32.toInt64 a1)) < 0 then
      X6_takeNumber_J34 μ
    else
      if (lg_cmp (rL μ 7 0 5) (Int32.toInt64 a2)) ≤ 0 then
        bV (X6_advance (wI μ 7 0 6 (Int64.toInt32 (rL μ 7 0 5)))) fun μ2 =>
          some (1, μ2)
      else
        X6_takeNumber_J34 μ
  else
    bI (X6_failToStand μ) fun x3 μ4 =>
      if x3 = 0 ∨ x3 = 1 then some (x3, μ4) else none
theorem tX6_takeNumber (a1 : Int32) (a2 : Int32) (μ : sM) : sMt yX6_takeNumber cX6_takeNumber 3 (some .boolean) 3 [vr 7 0, vi a1, vi a2] μ (oI (X6_takeNumber a1 a2 μ)) := by
  refine sMt_of (own := 6) (bl := true) (by decide +kernel) rfl (Nat.le_of_ble_eq_true rfl) (fun r ρ h => ?_) ?_
  · obtain ⟨q, -, hq⟩ := Option.map_eq_some_iff.mp h
    cases hq
    exact Or.inr ⟨rfl, rfl⟩
  · unfold X6_takeNumber
    show sOk 6 cX6_takeNumber 3 3 true 0 [(0, vr 7 0), (1, vi a1), (2, vi a2)] [] μ _
    refine sBk (lo' := [(0, vr 7 0), (1, vi a1), (2, vi a2)]) (st' := [vi 29, vi (rI μ 7 0 4)]) (μ' := μ) (pc' := 6) [(.aload_n 0, 0, 0, 0, 0), (.getfield 51, 6, 4, 0, 0), (.bipush 29, 0, 0, 29, 0)] (by decide +kernel) rfl rfl ?_
    refine sIc_eq oI (off := 8) (tgt := 14) (by decide +kernel) (by decide) (fun _ => ?_) (fun _ => ?_)
    · refine sBk (lo' := [(0, vr 7 0), (1, vi a1), (2, vi a2)]) (st' := [vi (lg_cmp (rL μ 7 0 5) (Int32.toInt64 a1))]) (μ' := μ) (pc' := 21) [(.aload_n 0, 0, 0, 0, 0), (.getfield 54, 6, 5, 0, 0), (.iload_n 1, 0, 0, 0, 0), (.i2l, 0, 0, 0, 0), (.lcmp, 0, 0, 0, 0)] (by decide +kernel) rfl rfl ?_
      refine sIf_lt oI (off := 13) (tgt := 34) (by decide +kernel) (by decide) (fun _ => ?_) (fun _ => ?_)
      · refine sWk (lo' := [(0, vr 7 0)]) [0] rfl ?_
        exact X6_takeNumber_J34_ok μ
      · refine sBk (lo' := [(0, vr 7 0), (1, vi a1), (2, vi a2)]) (st' := [vi (lg_cmp (rL μ 7 0 5) (Int32.toInt64 a2))]) (μ' := μ) (pc' := 31) [(.aload_n 0, 0, 0, 0, 0), (.getfield 54, 6, 5, 0, 0), (.iload_n 2, 0, 0, 0, 0), (.i2l, 0, 0, 0, 0), (.lcmp, 0, 0, 0, 0)] (by decide +kernel) rfl rfl ?_
        refine sIf_le oI (off := 9) (tgt := 40) (by decide +kernel) (by decide) (fun _ => ?_) (fun _ => ?_)
        · refine sBk (lo' := [(0, vr 7 0), (1, vi a1), (2, vi a2)]) (st' := [vr 7 0]) (μ' := wI μ 7 0 6 (Int64.toInt32 (rL μ 7 0 5))) (pc' := 50) [(.aload_n 0, 0, 0, 0, 0), (.aload_n 0, 0, 0, 0, 0), (.getfield 54, 6, 5, 0, 0), (.l2i, 0, 0, 0, 0), (.putfield 71, 6, 6, 0, 0), (.aload_n 0, 0, 0, 0, 0)] (by decide +kernel) rfl rfl ?_
          refine sCvV oI rfl (ci := 6) (q := (7, 0)) (avs := []) (rest := []) (tX6_advance (wI μ 7 0 6 (Int64.toInt32 (rL μ 7 0 5)))) (by decide) (by decide +kernel) lk_6_66 yv_X6_advance rfl (by decide) rfl rfl rfl (Nat.le_of_ble_eq_true rfl) (fun μ2 => ?_)
          refine sBk (lo' := [(0, vr 7 0), (1, vi a1), (2, vi a2)]) (st' := [vi 1]) (μ' := μ2) (pc' := 54) [(.iconst 1, 0, 0, 1, 0)] (by decide +kernel) rfl rfl ?_
          exact sRi (by decide +kernel) (fun _ => Or.inr rfl)
        · refine sWk (lo' := [(0, vr 7 0)]) [0] rfl ?_
          exact X6_takeNumber_J34_ok μ
    · refine sBk (lo' := [(0, vr 7 0), (1, vi a1), (2, vi a2)]) (st' := [vr 7 0]) (μ' := μ) (pc' := 10) [(.aload_n 0, 0, 0, 0, 0)] (by decide +kernel) rfl rfl ?_
      refine sCvI oI rfl (ci := 6) (q := (7, 0)) (avs := []) (rest := []) (tX6_failToStand μ) (by decide) (by decide +kernel) lk_6_62 yv_X6_failToStand rfl (by decide) rfl rfl rfl (Nat.le_of_ble_eq_true rfl) (fun x3 μ4 => ?_)
      exact sCk oI rfl (fun h => sRi (by decide +kernel) (fun _ => h))
/-! ClockRiver$Tape.takeEnd -/
def X6_takeEnd_J20 (μ : sM) : Option (Int32 × sM) :=
  bI (X6_failToStand μ) fun x1 μ2 =>
    if x1 = 0 ∨ x1 = 1 then some (x1, μ2) else none
theorem X6_takeEnd_J20_ok (μ : sM) : sOk 6 cX6_takeEnd 1 3 true 20 [(0, vr 7 0)] [] μ (oI (X6_takeEnd_J20 μ)) := by
  unfold X6_takeEnd_J20
  refine sBk (lo' := [(0, vr 7 0)]) (st' := [vr 7 0]) (μ' := μ) (pc' := 21) [(.aload_n 0, 0, 0, 0, 0)] (by decide +kernel) rfl rfl ?_
  refine sCvI oI rfl (ci := 6) (q := (7, 0)) (avs := []) (rest := []) (tX6_failToStand μ) (by decide) (by decide +kernel) lk_6_62 yv_X6_failToStand rfl (by decide) rfl rfl rfl (Nat.le_of_ble_eq_true rfl) (fun x1 μ2 => ?_)
  exact sCk oI rfl (fun h => sRi (by decide +kernel) (fun _ => h))
def X6_takeEnd (μ : sM) : Option (Int32 × sM) :=
  if (rI μ 7 0 4) = 30 then
    if (lg_cmp (rL μ 7 0 5) 59) = 0 then
      bV (X6_advance μ) fun μ2 =>
        some (1, μ2)
    else
      X6_takeEnd_J20 μ
  else
    X6_takeEnd_J20 μ
theorem tX6_takeEnd (μ : sM) : sMt yX6_takeEnd cX6_takeEnd 1 (some .boolean) 3 [vr 7 0] μ (oI (X6_takeEnd μ)) := by
  refine sMt_of (own := 6) (bl := true) (by decide +kernel) rfl (Nat.le_of_ble_eq_true rfl) (fun r ρ h => ?_) ?_
  · obtain ⟨q, -, hq⟩ := Option.map_eq_some_iff.mp h
    cases hq
    exact Or.inr ⟨rfl, rfl⟩
  · unfold X6_takeEnd
    show sOk 6 cX6_takeEnd 1 3 true 0 [(0, vr 7 0)] [] μ _
    refine sBk (lo' := [(0, vr 7 0)]) (st' := [vi 30, vi (rI μ 7 0 4)]) (μ' := μ) (pc' := 6) [(.aload_n 0, 0, 0, 0, 0), (.getfield 51, 6, 4, 0, 0), (.bipush 30, 0, 0, 30, 0)] (by decide +kernel) rfl rfl ?_
    refine sIc_ne oI (off := 14) (tgt := 20) (by decide +kernel) (by decide) (fun _ => ?_) (fun _ => ?_)
    · exact X6_takeEnd_J20_ok μ
    · refine sBk (lo' := [(0, vr 7 0)]) (st' := [vi (lg_cmp (rL μ 7 0 5) 59)]) (μ' := μ) (pc' := 17) [(.aload_n 0, 0, 0, 0, 0), (.getfield 54, 6, 5, 0, 0), (.ldc2_w 69, 0, 0, 0, 59), (.lcmp, 0, 0, 0, 0)] (by decide +kernel) rfl rfl ?_
      refine sIf_eq oI (off := 8) (tgt := 25) (by decide +kernel) (by decide) (fun _ => ?_) (fun _ => ?_)
      · refine sBk (lo' := [(0, vr 7 0)]) (st' := [vr 7 0]) (μ' := μ) (pc' := 26) [(.aload_n 0, 0, 0, 0, 0)] (by decide +kernel) rfl rfl ?_
        refine sCvV oI rfl (ci := 6) (q := (7, 0)) (avs := []) (rest := []) (tX6_advance μ) (by decide) (by decide +kernel) lk_6_66 yv_X6_advance rfl (by decide) rfl rfl rfl (Nat.le_of_ble_eq_true rfl) (fun μ2 => ?_)
        refine sBk (lo' := [(0, vr 7 0)]) (st' := [vi 1]) (μ' := μ2) (pc' := 30) [(.iconst 1, 0, 0, 1, 0)] (by decide +kernel) rfl rfl ?_
        exact sRi (by decide +kernel) (fun _ => Or.inr rfl)
      · exact X6_takeEnd_J20_ok μ
/-! ClockRiver$Tape.takeWord -/
def X6_takeWord (a1 : Int32) (μ : sM) : Option (Int32 × sM) :=
  if (rI μ 7 0 4) = a1 then
    bV (X6_advance μ) fun μ2 =>
      some (1, μ2)
  else
    bI (X6_failToStand μ) fun x3 μ4 =>
      if x3 = 0 ∨ x3 = 1 then some (x3, μ4) else none
theorem tX6_takeWord (a1 : Int32) (μ : sM) : sMt yX6_takeWord cX6_takeWord 2 (some .boolean) 3 [vr 7 0, vi a1] μ (oI (X6_takeWord a1 μ)) := by
  refine sMt_of (own := 6) (bl := true) (by decide +kernel) rfl (Nat.le_of_ble_eq_true rfl) (fun r ρ h => ?_) ?_
  · obtain ⟨q, -, hq⟩ := Option.map_eq_some_iff.mp h
    cases hq
    exact Or.inr ⟨rfl, rfl⟩
  · unfold X6_takeWord
    show sOk 6 cX6_takeWord 2 3 true 0 [(0, vr 7 0), (1, vi a1)] [] μ _
    refine sBk (lo' := [(0, vr 7 0), (1, vi a1)]) (st' := [vi a1, vi (rI μ 7 0 4)]) (μ' := μ) (pc' := 5) [(.aload_n 0, 0, 0, 0, 0), (.getfield 51, 6, 4, 0, 0), (.iload_n 1, 0, 0, 0, 0)] (by decide +kernel) rfl rfl ?_
    refine sIc_eq oI (off := 8) (tgt := 13) (by decide +kernel) (by decide) (fun _ => ?_) (fun _ => ?_)
    · refine sBk (lo' := [(0, vr 7 0), (1, vi a1)]) (st' := [vr 7 0]) (μ' := μ) (pc' := 14) [(.aload_n 0, 0, 0, 0, 0)] (by decide +kernel) rfl rfl ?_
      refine sCvV oI rfl (ci := 6) (q := (7, 0)) (avs := []) (rest := []) (tX6_advance μ) (by decide) (by decide +kernel) lk_6_66 yv_X6_advance rfl (by decide) rfl rfl rfl (Nat.le_of_ble_eq_true rfl) (fun μ2 => ?_)
      refine sBk (lo' := [(0, vr 7 0), (1, vi a1)]) (st' := [vi 1]) (μ' := μ2) (pc' := 18) [(.iconst 1, 0, 0, 1, 0)] (by decide +kernel) rfl rfl ?_
      exact sRi (by decide +kernel) (fun _ => Or.inr rfl)
    · refine sBk (lo' := [(0, vr 7 0), (1, vi a1)]) (st' := [vr 7 0]) (μ' := μ) (pc' := 9) [(.aload_n 0, 0, 0, 0, 0)] (by decide +kernel) rfl rfl ?_
      refine sCvI oI rfl (ci := 6) (q := (7, 0)) (avs := []) (rest := []) (tX6_failToStand μ) (by decide) (by decide +kernel) lk_6_62 yv_X6_failToStand rfl (by decide) rfl rfl rfl (Nat.le_of_ble_eq_true rfl) (fun x3 μ4 => ?_)
      exact sCk oI rfl (fun h => sRi (by decide +kernel) (fun _ => h))
