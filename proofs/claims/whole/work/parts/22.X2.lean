/-! ClockRiver$Mills.add -/
def X2_add (a0 : Nat) (a1 : Int64) (a3 : Int32) (a4 : Int32) (μ : sM) : Option sM :=
  if 6 ≤ (rI μ 3 a0 0) then
    some μ
  else
    if inb (rI μ 3 a0 0) 6 = true then
      if inb (rI μ 3 a0 0) 6 = true then
        if inb (rI μ 3 a0 0) 6 = true then
          if inb (rI μ 3 a0 0) 6 = true then
            some (wI (wI (wI (wI (wL μ 24 a0 (ix (rI μ 3 a0 0)) a1) 25 a0 (ix (rI μ 3 a0 0)) a3) 26 a0 (ix (rI μ 3 a0 0)) a4) 27 a0 (ix (rI μ 3 a0 0)) 0) 3 a0 0 ((rI μ 3 a0 0) + 1))
          else none
        else none
      else none
    else none
theorem tX2_add (a0 : Nat) (a1 : Int64) (a3 : Int32) (a4 : Int32) (μ : sM) : sMt yX2_add cX2_add 5 none 1 [vr 3 a0, vl a1, vi a3, vi a4] μ (oV (X2_add a0 a1 a3 a4 μ)) := by
  refine sMt_of (own := 2) (bl := false) (by decide +kernel) rfl (Nat.le_of_ble_eq_true rfl) (fun r ρ h => ?_) ?_
  · obtain ⟨q, -, hq⟩ := Option.map_eq_some_iff.mp h
    cases hq
    exact rfl
  · unfold X2_add
    show sOk 2 cX2_add 5 1 false 0 [(0, vr 3 a0), (1, vl a1), (3, vi a3), (4, vi a4)] [] μ _
    refine sBk (lo' := [(0, vr 3 a0), (1, vl a1), (3, vi a3), (4, vi a4)]) (st' := [vi 6, vi (rI μ 3 a0 0)]) (μ' := μ) (pc' := 6) [(.aload_n 0, 0, 0, 0, 0), (.getfield 25, 2, 0, 0, 0), (.bipush 6, 0, 0, 6, 0)] (by decide +kernel) rfl rfl ?_
    refine sIc_ge oV (off := 54) (tgt := 60) (by decide +kernel) (by decide) (fun _ => ?_) (fun _ => ?_)
    · exact sRv (by decide +kernel)
    · refine sBk (lo' := [(0, vr 3 a0), (1, vl a1), (3, vi a3), (4, vi a4)]) (st' := [vl a1, vi (rI μ 3 a0 0), vr 24 a0]) (μ' := μ) (pc' := 18) [(.aload_n 0, 0, 0, 0, 0), (.getfield 9, 2, 1, 0, 0), (.aload_n 0, 0, 0, 0, 0), (.getfield 25, 2, 0, 0, 0), (.lload_n 1, 0, 0, 0, 0)] (by decide +kernel) rfl rfl ?_
      refine sS_las oV rfl (n := 6) (j := (ix (rI μ 3 a0 0))) (by decide +kernel) rfl rfl rfl (fun _ => ?_)
      refine sBk (lo' := [(0, vr 3 a0), (1, vl a1), (3, vi a3), (4, vi a4)]) (st' := [vi a3, vi (rI μ 3 a0 0), vr 25 a0]) (μ' := wL μ 24 a0 (ix (rI μ 3 a0 0)) a1) (pc' := 28) [(.aload_n 0, 0, 0, 0, 0), (.getfield 15, 2, 2, 0, 0), (.aload_n 0, 0, 0, 0, 0), (.getfield 25, 2, 0, 0, 0), (.iload_n 3, 0, 0, 0, 0)] (by decide +kernel) rfl rfl ?_
      refine sS_ias oV rfl (n := 6) (j := (ix (rI μ 3 a0 0))) (by decide +kernel) rfl rfl rfl (fun _ => ?_)
      refine sBk (lo' := [(0, vr 3 a0), (1, vl a1), (3, vi a3), (4, vi a4)]) (st' := [vi a4, vi (rI μ 3 a0 0), vr 26 a0]) (μ' := wI (wL μ 24 a0 (ix (rI μ 3 a0 0)) a1) 25 a0 (ix (rI μ 3 a0 0)) a3) (pc' := 39) [(.aload_n 0, 0, 0, 0, 0), (.getfield 19, 2, 3, 0, 0), (.aload_n 0, 0, 0, 0, 0), (.getfield 25, 2, 0, 0, 0), (.iload 4, 0, 0, 0, 0)] (by decide +kernel) rfl rfl ?_
      refine sS_ias oV rfl (n := 6) (j := (ix (rI μ 3 a0 0))) (by decide +kernel) rfl rfl rfl (fun _ => ?_)
      refine sBk (lo' := [(0, vr 3 a0), (1, vl a1), (3, vi a3), (4, vi a4)]) (st' := [vi 0, vi (rI μ 3 a0 0), vr 27 a0]) (μ' := wI (wI (wL μ 24 a0 (ix (rI μ 3 a0 0)) a1) 25 a0 (ix (rI μ 3 a0 0)) a3) 26 a0 (ix (rI μ 3 a0 0)) a4) (pc' := 49) [(.aload_n 0, 0, 0, 0, 0), (.getfield 22, 2, 4, 0, 0), (.aload_n 0, 0, 0, 0, 0), (.getfield 25, 2, 0, 0, 0), (.iconst 0, 0, 0, 0, 0)] (by decide +kernel) rfl rfl ?_
      refine sS_ias oV rfl (n := 6) (j := (ix (rI μ 3 a0 0))) (by decide +kernel) rfl rfl rfl (fun _ => ?_)
      refine sBk (lo' := [(0, vr 3 a0), (1, vl a1), (3, vi a3), (4, vi a4)]) (st' := []) (μ' := wI (wI (wI (wI (wL μ 24 a0 (ix (rI μ 3 a0 0)) a1) 25 a0 (ix (rI μ 3 a0 0)) a3) 26 a0 (ix (rI μ 3 a0 0)) a4) 27 a0 (ix (rI μ 3 a0 0)) 0) 3 a0 0 ((rI μ 3 a0 0) + 1)) (pc' := 60) [(.aload_n 0, 0, 0, 0, 0), (.dup, 0, 0, 0, 0), (.getfield 25, 2, 0, 0, 0), (.iconst 1, 0, 0, 1, 0), (.iadd, 0, 0, 0, 0), (.putfield 25, 2, 0, 0, 0)] (by decide +kernel) rfl rfl ?_
      exact sRv (by decide +kernel)
/-! ClockRiver$Mills.copyFrom -/
def X2_copyFrom (a0 : Nat) (a1 : Nat) (μ : sM) : Option sM :=
  if cpo 0 0 (rI (wI μ 3 a0 0 (rI μ 3 a1 0)) 3 a0 0) 6 6 = true then
    if cpo 0 0 (rI (wI μ 3 a0 0 (rI μ 3 a1 0)) 3 a0 0) 6 6 = true then
      if cpo 0 0 (rI (wI μ 3 a0 0 (rI μ 3 a1 0)) 3 a0 0) 6 6 = true then
        if cpo 0 0 (rI (wI μ 3 a0 0 (rI μ 3 a1 0)) 3 a0 0) 6 6 = true then
          some (cI (cI (cI (cL (wI μ 3 a0 0 (rI μ 3 a1 0)) 24 a1 (ix 0) 24 a0 (ix 0) (ix (rI (wI μ 3 a0 0 (rI μ 3 a1 0)) 3 a0 0))) 25 a1 (ix 0) 25 a0 (ix 0) (ix (rI (wI μ 3 a0 0 (rI μ 3 a1 0)) 3 a0 0))) 26 a1 (ix 0) 26 a0 (ix 0) (ix (rI (wI μ 3 a0 0 (rI μ 3 a1 0)) 3 a0 0))) 27 a1 (ix 0) 27 a0 (ix 0) (ix (rI (wI μ 3 a0 0 (rI μ 3 a1 0)) 3 a0 0)))
        else none
      else none
    else none
  else none
theorem tX2_copyFrom (a0 : Nat) (a1 : Nat) (μ : sM) : sMt yX2_copyFrom cX2_copyFrom 2 none 1 [vr 3 a0, vr 3 a1] μ (oV (X2_copyFrom a0 a1 μ)) := by
  refine sMt_of (own := 2) (bl := false) (by decide +kernel) rfl (Nat.le_of_ble_eq_true rfl) (fun r ρ h => ?_) ?_
  · obtain ⟨q, -, hq⟩ := Option.map_eq_some_iff.mp h
    cases hq
    exact rfl
  · unfold X2_copyFrom
    show sOk 2 cX2_copyFrom 2 1 false 0 [(0, vr 3 a0), (1, vr 3 a1)] [] μ _
    refine sBk (lo' := [(0, vr 3 a0), (1, vr 3 a1)]) (st' := [vi (rI (wI μ 3 a0 0 (rI μ 3 a1 0)) 3 a0 0), vi 0, vr 24 a0, vi 0, vr 24 a1]) (μ' := wI μ 3 a0 0 (rI μ 3 a1 0)) (pc' := 22) [(.aload_n 0, 0, 0, 0, 0), (.aload_n 1, 0, 0, 0, 0), (.getfield 25, 2, 0, 0, 0), (.putfield 25, 2, 0, 0, 0), (.aload_n 1, 0, 0, 0, 0), (.getfield 9, 2, 1, 0, 0), (.iconst 0, 0, 0, 0, 0), (.aload_n 0, 0, 0, 0, 0), (.getfield 9, 2, 1, 0, 0), (.iconst 0, 0, 0, 0, 0), (.aload_n 0, 0, 0, 0, 0), (.getfield 25, 2, 0, 0, 0)] (by decide +kernel) rfl rfl ?_
    refine sCk oV rfl (fun h => ?_)
    refine sCpL (q0 := (24, a1)) (q1 := (24, a0)) (idx := 29) (p1 := 939) (by decide +kernel) rfl rfl (by decide) h ?_
    refine sBk (lo' := [(0, vr 3 a0), (1, vr 3 a1)]) (st' := [vi (rI (wI μ 3 a0 0 (rI μ 3 a1 0)) 3 a0 0), vi 0, vr 25 a0, vi 0, vr 25 a1]) (μ' := cL (wI μ 3 a0 0 (rI μ 3 a1 0)) 24 a1 (ix 0) 24 a0 (ix 0) (ix (rI (wI μ 3 a0 0 (rI μ 3 a1 0)) 3 a0 0))) (pc' := 39) [(.aload_n 1, 0, 0, 0, 0), (.getfield 15, 2, 2, 0, 0), (.iconst 0, 0, 0, 0, 0), (.aload_n 0, 0, 0, 0, 0), (.getfield 15, 2, 2, 0, 0), (.iconst 0, 0, 0, 0, 0), (.aload_n 0, 0, 0, 0, 0), (.getfield 25, 2, 0, 0, 0)] (by decide +kernel) rfl rfl ?_
    refine sCk oV rfl (fun h => ?_)
    refine sCpI (q0 := (25, a1)) (q1 := (25, a0)) (idx := 29) (p1 := 939) (by decide +kernel) rfl rfl (by decide) h ?_
    refine sBk (lo' := [(0, vr 3 a0), (1, vr 3 a1)]) (st' := [vi (rI (wI μ 3 a0 0 (rI μ 3 a1 0)) 3 a0 0), vi 0, vr 26 a0, vi 0, vr 26 a1]) (μ' := cI (cL (wI μ 3 a0 0 (rI μ 3 a1 0)) 24 a1 (ix 0) 24 a0 (ix 0) (ix (rI (wI μ 3 a0 0 (rI μ 3 a1 0)) 3 a0 0))) 25 a1 (ix 0) 25 a0 (ix 0) (ix (rI (wI μ 3 a0 0 (rI μ 3 a1 0)) 3 a0 0))) (pc' := 56) [(.aload_n 1, 0, 0, 0, 0), (.getfield 19, 2, 3, 0, 0), (.iconst 0, 0, 0, 0, 0), (.aload_n 0, 0, 0, 0, 0), (.getfield 19, 2, 3, 0, 0), (.iconst 0, 0, 0, 0, 0), (.aload_n 0, 0, 0, 0, 0), (.getfield 25, 2, 0, 0, 0)] (by decide +kernel) rfl rfl ?_
    refine sCk oV rfl (fun h => ?_)
    refine sCpI (q0 := (26, a1)) (q1 := (26, a0)) (idx := 29) (p1 := 939) (by decide +kernel) rfl rfl (by decide) h ?_
    refine sBk (lo' := [(0, vr 3 a0), (1, vr 3 a1)]) (st' := [vi (rI (wI μ 3 a0 0 (rI μ 3 a1 0)) 3 a0 0), vi 0, vr 27 a0, vi 0, vr 27 a1]) (μ' := cI (cI (cL (wI μ 3 a0 0 (rI μ 3 a1 0)) 24 a1 (ix 0) 24 a0 (ix 0) (ix (rI (wI μ 3 a0 0 (rI μ 3 a1 0)) 3 a0 0))) 25 a1 (ix 0) 25 a0 (ix 0) (ix (rI (wI μ 3 a0 0 (rI μ 3 a1 0)) 3 a0 0))) 26 a1 (ix 0) 26 a0 (ix 0) (ix (rI (wI μ 3 a0 0 (rI μ 3 a1 0)) 3 a0 0))) (pc' := 73) [(.aload_n 1, 0, 0, 0, 0), (.getfield 22, 2, 4, 0, 0), (.iconst 0, 0, 0, 0, 0), (.aload_n 0, 0, 0, 0, 0), (.getfield 22, 2, 4, 0, 0), (.iconst 0, 0, 0, 0, 0), (.aload_n 0, 0, 0, 0, 0), (.getfield 25, 2, 0, 0, 0)] (by decide +kernel) rfl rfl ?_
    refine sCk oV rfl (fun h => ?_)
    refine sCpI (q0 := (27, a1)) (q1 := (27, a0)) (idx := 29) (p1 := 939) (by decide +kernel) rfl rfl (by decide) h ?_
    exact sRv (by decide +kernel)
/-! ClockRiver$Mills.allGround -/
def X2_allGround_L4 : Nat → Nat → Int32 → Int32 → sM → Option (Int32 × sM)
  | 0, _, _, _, _ => none
  | n + 1, v0, v1, v2, μ =>
    if (rI μ 3 v0 0) ≤ v2 then
      some (v1, μ)
    else
      if inb v2 6 = true then
        X2_allGround_L4 n v0 (v1 + (rI μ 27 v0 (ix v2))) (v2 + 1) μ
      else none
theorem X2_allGround_L4_ok : ∀ (n : Nat) (v0 : Nat) (v1 : Int32) (v2 : Int32) (μ : sM), sOk 2 cX2_allGround 3 1 false 4 [(0, vr 3 v0), (1, vi v1), (2, vi v2)] [] μ (oI (X2_allGround_L4 n v0 v1 v2 μ)) := by
  intro n
  induction n with
  | zero =>
    intros
    exact sNo
  | succ n ih =>
    intro v0 v1 v2 μ
    unfold X2_allGround_L4
    refine sBk (lo' := [(0, vr 3 v0), (1, vi v1), (2, vi v2)]) (st' := [vi (rI μ 3 v0 0), vi v2]) (μ' := μ) (pc' := 9) [(.iload_n 2, 0, 0, 0, 0), (.aload_n 0, 0, 0, 0, 0), (.getfield 25, 2, 0, 0, 0)] (by decide +kernel) rfl rfl ?_
    refine sIc_ge oI (off := 18) (tgt := 27) (by decide +kernel) (by decide) (fun _ => ?_) (fun _ => ?_)
    · refine sBk (lo' := [(0, vr 3 v0), (1, vi v1), (2, vi v2)]) (st' := [vi v1]) (μ' := μ) (pc' := 28) [(.iload_n 1, 0, 0, 0, 0)] (by decide +kernel) rfl rfl ?_
      exact sRi (by decide +kernel) (fun h => by cases h)
    · refine sBk (lo' := [(0, vr 3 v0), (1, vi v1), (2, vi v2)]) (st' := [vi v2, vr 27 v0, vi v1]) (μ' := μ) (pc' := 18) [(.iload_n 1, 0, 0, 0, 0), (.aload_n 0, 0, 0, 0, 0), (.getfield 22, 2, 4, 0, 0), (.iload_n 2, 0, 0, 0, 0)] (by decide +kernel) rfl rfl ?_
      refine sS_ial oI rfl (n := 6) (j := (ix v2)) (by decide +kernel) rfl rfl rfl (fun _ => ?_)
      refine sBk (lo' := [(2, vi (v2 + 1)), (1, vi (v1 + (rI μ 27 v0 (ix v2)))), (0, vr 3 v0)]) (st' := []) (μ' := μ) (pc' := 24) [(.iadd, 0, 0, 0, 0), (.istore_n 1, 0, 0, 0, 0), (.iinc 2 1, 0, 0, 1, 0)] (by decide +kernel) rfl rfl ?_
      refine sGt (off := (-20)) (tgt := 4) (by decide +kernel) (by decide) ?_
      refine sWk (lo' := [(0, vr 3 v0), (1, vi (v1 + (rI μ 27 v0 (ix v2)))), (2, vi (v2 + 1))]) [2, 1, 0] rfl ?_
      exact ih v0 (v1 + (rI μ 27 v0 (ix v2))) (v2 + 1) μ
def X2_allGround (a0 : Nat) (μ : sM) : Option (Int32 × sM) :=
  X2_allGround_L4 fuN a0 0 0 μ
theorem tX2_allGround (a0 : Nat) (μ : sM) : sMt yX2_allGround cX2_allGround 3 (some .int) 1 [vr 3 a0] μ (oI (X2_allGround a0 μ)) := by
  refine sMt_of (own := 2) (bl := false) (by decide +kernel) rfl (Nat.le_of_ble_eq_true rfl) (fun r ρ h => ?_) ?_
  · obtain ⟨q, -, hq⟩ := Option.map_eq_some_iff.mp h
    cases hq
    exact Or.inl rfl
  · unfold X2_allGround
    show sOk 2 cX2_allGround 3 1 false 0 [(0, vr 3 a0)] [] μ _
    refine sBk (lo' := [(2, vi 0), (1, vi 0), (0, vr 3 a0)]) (st' := []) (μ' := μ) (pc' := 4) [(.iconst 0, 0, 0, 0, 0), (.istore_n 1, 0, 0, 0, 0), (.iconst 0, 0, 0, 0, 0), (.istore_n 2, 0, 0, 0, 0)] (by decide +kernel) rfl rfl ?_
    refine sWk (lo' := [(0, vr 3 a0), (1, vi 0), (2, vi 0)]) [2, 1, 0] rfl ?_
    exact X2_allGround_L4_ok fuN a0 0 0 μ
/-! ClockRiver$Mills.countAt -/
def X2_countAt_J25 (k4 : Nat → Int32 → Int32 → Int32 → sM → Option (Int32 × sM)) (v0 : Nat) (v1 : Int32) (v2 : Int32) (v3 : Int32) (μ : sM) : Option (Int32 × sM) :=
  k4 v0 v1 v2 (v3 + 1) μ
theorem X2_countAt_J25_ok {k4 : Nat → Int32 → Int32 → Int32 → sM → Option (Int32 × sM)} (hk4 : ∀ (v0 : Nat) (v1 : Int32) (v2 : Int32) (v3 : Int32) (μ : sM), sOk 2 cX2_countAt 4 1 false 4 [(0, vr 3 v0), (1, vi v1), (2, vi v2), (3, vi v3)] [] μ (oI (k4 v0 v1 v2 v3 μ))) (v0 : Nat) (v1 : Int32) (v2 : Int32) (v3 : Int32) (μ : sM) : sOk 2 cX2_countAt 4 1 false 25 [(0, vr 3 v0), (1, vi v1), (2, vi v2), (3, vi v3)] [] μ (oI (X2_countAt_J25 k4 v0 v1 v2 v3 μ)) := by
  unfold X2_countAt_J25
  refine sBk (lo' := [(3, vi (v3 + 1)), (0, vr 3 v0), (1, vi v1), (2, vi v2)]) (st' := []) (μ' := μ) (pc' := 28) [(.iinc 3 1, 0, 0, 1, 0)] (by decide +kernel) rfl rfl ?_
  refine sGt (off := (-24)) (tgt := 4) (by decide +kernel) (by decide) ?_
  refine sWk (lo' := [(0, vr 3 v0), (1, vi v1), (2, vi v2), (3, vi (v3 + 1))]) [1, 2, 3, 0] rfl ?_
  exact hk4 v0 v1 v2 (v3 + 1) μ
def X2_countAt_L4 : Nat → Nat → Int32 → Int32 → Int32 → sM → Option (Int32 × sM)
  | 0, _, _, _, _, _ => none
  | n + 1, v0, v1, v2, v3, μ =>
    if (rI μ 3 v0 0) ≤ v3 then
      some (v2, μ)
    else
      if inb v3 6 = true then
        if (rI μ 25 v0 (ix v3)) = v1 then
          X2_countAt_J25 (X2_countAt_L4 n) v0 v1 (v2 + 1) v3 μ
        else
          X2_countAt_J25 (X2_countAt_L4 n) v0 v1 v2 v3 μ
      else none
theorem X2_countAt_L4_ok : ∀ (n : Nat) (v0 : Nat) (v1 : Int32) (v2 : Int32) (v3 : Int32) (μ : sM), sOk 2 cX2_countAt 4 1 false 4 [(0, vr 3 v0), (1, vi v1), (2, vi v2), (3, vi v3)] [] μ (oI (X2_countAt_L4 n v0 v1 v2 v3 μ)) := by
  intro n
  induction n with
  | zero =>
    intros
    exact sNo
  | succ n ih =>
    intro v0 v1 v2 v3 μ
    unfold X2_countAt_L4
    refine sBk (lo' := [(0, vr 3 v0), (1, vi v1), (2, vi v2), (3, vi v3)]) (st' := [vi (rI μ 3 v0 0), vi v3]) (μ' := μ) (pc' := 9) [(.iload_n 3, 0, 0, 0, 0), (.aload_n 0, 0, 0, 0, 0), (.getfield 25, 2, 0, 0, 0)] (by decide +kernel) rfl rfl ?_
    refine sIc_ge oI (off := 22) (tgt := 31) (by decide +kernel) (by decide) (fun _ => ?_) (fun _ => ?_)
    · refine sBk (lo' := [(0, vr 3 v0), (1, vi v1), (2, vi v2), (3, vi v3)]) (st' := [vi v2]) (μ' := μ) (pc' := 32) [(.iload_n 2, 0, 0, 0, 0)] (by decide +kernel) rfl rfl ?_
      exact sRi (by decide +kernel) (fun h => by cases h)
    · refine sBk (lo' := [(0, vr 3 v0), (1, vi v1), (2, vi v2), (3, vi v3)]) (st' := [vi v3, vr 25 v0]) (μ' := μ) (pc' := 17) [(.aload_n 0, 0, 0, 0, 0), (.getfield 15, 2, 2, 0, 0), (.iload_n 3, 0, 0, 0, 0)] (by decide +kernel) rfl rfl ?_
      refine sS_ial oI rfl (n := 6) (j := (ix v3)) (by decide +kernel) rfl rfl rfl (fun _ => ?_)
      refine sBk (lo' := [(0, vr 3 v0), (1, vi v1), (2, vi v2), (3, vi v3)]) (st' := [vi v1, vi (rI μ 25 v0 (ix v3))]) (μ' := μ) (pc' := 19) [(.iload_n 1, 0, 0, 0, 0)] (by decide +kernel) rfl rfl ?_
      refine sIc_ne oI (off := 6) (tgt := 25) (by decide +kernel) (by decide) (fun _ => ?_) (fun _ => ?_)
      · exact X2_countAt_J25_ok ih v0 v1 v2 v3 μ
      · refine sBk (lo' := [(2, vi (v2 + 1)), (0, vr 3 v0), (1, vi v1), (3, vi v3)]) (st' := []) (μ' := μ) (pc' := 25) [(.iinc 2 1, 0, 0, 1, 0)] (by decide +kernel) rfl rfl ?_
        refine sWk (lo' := [(0, vr 3 v0), (1, vi v1), (2, vi (v2 + 1)), (3, vi v3)]) [1, 2, 0, 3] rfl ?_
        exact X2_countAt_J25_ok ih v0 v1 (v2 + 1) v3 μ
def X2_countAt (a0 : Nat) (a1 : Int32) (μ : sM) : Option (Int32 × sM) :=
  X2_countAt_L4 fuN a0 a1 0 0 μ
theorem tX2_countAt (a0 : Nat) (a1 : Int32) (μ : sM) : sMt yX2_countAt cX2_countAt 4 (some .int) 1 [vr 3 a0, vi a1] μ (oI (X2_countAt a0 a1 μ)) := by
  refine sMt_of (own := 2) (bl := false) (by decide +kernel) rfl (Nat.le_of_ble_eq_true rfl) (fun r ρ h => ?_) ?_
  · obtain ⟨q, -, hq⟩ := Option.map_eq_some_iff.mp h
    cases hq
    exact Or.inl rfl
  · unfold X2_countAt
    show sOk 2 cX2_countAt 4 1 false 0 [(0, vr 3 a0), (1, vi a1)] [] μ _
    refine sBk (lo' := [(3, vi 0), (2, vi 0), (0, vr 3 a0), (1, vi a1)]) (st' := []) (μ' := μ) (pc' := 4) [(.iconst 0, 0, 0, 0, 0), (.istore_n 2, 0, 0, 0, 0), (.iconst 0, 0, 0, 0, 0), (.istore_n 3, 0, 0, 0, 0)] (by decide +kernel) rfl rfl ?_
    refine sWk (lo' := [(0, vr 3 a0), (1, vi a1), (2, vi 0), (3, vi 0)]) [2, 3, 1, 0] rfl ?_
    exact X2_countAt_L4_ok fuN a0 a1 0 0 μ
/-! ClockRiver$Mills.grind -/
def X2_grind_32_J42 (k4 : Nat → Nat → Int32 → Int32 → sM → Option (Int32 × sM)) (v0 : Nat) (v1 : Nat) (v2 : Int32) (v3 : Int32) (μ : sM) : Option (Int32 × sM) :=
  k4 v0 v1 v2 (v3 + 1) μ
theorem X2_grind_32_J42_ok {k4 : Nat → Nat → Int32 → Int32 → sM → Option (Int32 × sM)} (hk4 : ∀ (v0 : Nat) (v1 : Nat) (v2 : Int32) (v3 : Int32) (μ : sM), sOk 2 cX2_grind 4 1 false 4 [(0, vr 3 v0), (1, vr 32 v1), (2, vi v2), (3, vi v3)] [] μ (oI (k4 v0 v1 v2 v3 μ))) (v0 : Nat) (v1 : Nat) (v2 : Int32) (v3 : Int32) (μ : sM) : sOk 2 cX2_grind 4 1 false 42 [(0, vr 3 v0), (1, vr 32 v1), (2, vi v2), (3, vi v3)] [] μ (oI (X2_grind_32_J42 k4 v0 v1 v2 v3 μ)) := by
  unfold X2_grind_32_J42
  refine sBk (lo' := [(3, vi (v3 + 1)), (0, vr 3 v0), (1, vr 32 v1), (2, vi v2)]) (st' := []) (μ' := μ) (pc' := 45) [(.iinc 3 1, 0, 0, 1, 0)] (by decide +kernel) rfl rfl ?_
  refine sGt (off := (-41)) (tgt := 4) (by decide +kernel) (by decide) ?_
  refine sWk (lo' := [(0, vr 3 v0), (1, vr 32 v1), (2, vi v2), (3, vi (v3 + 1))]) [1, 2, 3, 0] rfl ?_
  exact hk4 v0 v1 v2 (v3 + 1) μ
def X2_grind_32_L4 : Nat → Nat → Nat → Int32 → Int32 → sM → Option (Int32 × sM)
  | 0, _, _, _, _, _ => none
  | n + 1, v0, v1, v2, v3, μ =>
    if (rI μ 3 v0 0) ≤ v3 then
      some (v2, μ)
    else
      if inb v3 6 = true then
        if inb (rI μ 25 v0 (ix v3)) 6 = true then
          if inb v3 6 = true then
            if (rI μ 32 v1 (ix (rI μ 25 v0 (ix v3)))) < (rI μ 26 v0 (ix v3)) then
              X2_grind_32_J42 (X2_grind_32_L4 n) v0 v1 v2 v3 μ
            else
              if inb v3 6 = true then
                if inb v3 6 = true then
                  X2_grind_32_J42 (X2_grind_32_L4 n) v0 v1 (v2 + 1) v3 (wI μ 27 v0 (ix v3) ((rI μ 27 v0 (ix v3)) + 1))
                else none
              else none
          else none
        else none
      else none
theorem X2_grind_32_L4_ok : ∀ (n : Nat) (v0 : Nat) (v1 : Nat) (v2 : Int32) (v3 : Int32) (μ : sM), sOk 2 cX2_grind 4 1 false 4 [(0, vr 3 v0), (1, vr 32 v1), (2, vi v2), (3, vi v3)] [] μ (oI (X2_grind_32_L4 n v0 v1 v2 v3 μ)) := by
  intro n
  induction n with
  | zero =>
    intros
    exact sNo
  | succ n ih =>
    intro v0 v1 v2 v3 μ
    unfold X2_grind_32_L4
    refine sBk (lo' := [(0, vr 3 v0), (1, vr 32 v1), (2, vi v2), (3, vi v3)]) (st' := [vi (rI μ 3 v0 0), vi v3]) (μ' := μ) (pc' := 9) [(.iload_n 3, 0, 0, 0, 0), (.aload_n 0, 0, 0, 0, 0), (.getfield 25, 2, 0, 0, 0)] (by decide +kernel) rfl rfl ?_
    refine sIc_ge oI (off := 39) (tgt := 48) (by decide +kernel) (by decide) (fun _ => ?_) (fun _ => ?_)
    · refine sBk (lo' := [(0, vr 3 v0), (1, vr 32 v1), (2, vi v2), (3, vi v3)]) (st' := [vi v2]) (μ' := μ) (pc' := 49) [(.iload_n 2, 0, 0, 0, 0)] (by decide +kernel) rfl rfl ?_
      exact sRi (by decide +kernel) (fun h => by cases h)
    · refine sBk (lo' := [(0, vr 3 v0), (1, vr 32 v1), (2, vi v2), (3, vi v3)]) (st' := [vi v3, vr 25 v0, vr 32 v1]) (μ' := μ) (pc' := 18) [(.aload_n 1, 0, 0, 0, 0), (.aload_n 0, 0, 0, 0, 0), (.getfield 15, 2, 2, 0, 0), (.iload_n 3, 0, 0, 0, 0)] (by decide +kernel) rfl rfl ?_
      refine sS_ial oI rfl (n := 6) (j := (ix v3)) (by decide +kernel) rfl rfl rfl (fun _ => ?_)
      refine sS_ial oI rfl (n := 6) (j := (ix (rI μ 25 v0 (ix v3)))) (by decide +kernel) rfl rfl rfl (fun _ => ?_)
      refine sBk (lo' := [(0, vr 3 v0), (1, vr 32 v1), (2, vi v2), (3, vi v3)]) (st' := [vi v3, vr 26 v0, vi (rI μ 32 v1 (ix (rI μ 25 v0 (ix v3))))]) (μ' := μ) (pc' := 25) [(.aload_n 0, 0, 0, 0, 0), (.getfield 19, 2, 3, 0, 0), (.iload_n 3, 0, 0, 0, 0)] (by decide +kernel) rfl rfl ?_
      refine sS_ial oI rfl (n := 6) (j := (ix v3)) (by decide +kernel) rfl rfl rfl (fun _ => ?_)
      refine sIc_lt oI (off := 16) (tgt := 42) (by decide +kernel) (by decide) (fun _ => ?_) (fun _ => ?_)
      · exact X2_grind_32_J42_ok ih v0 v1 v2 v3 μ
      · refine sBk (lo' := [(0, vr 3 v0), (1, vr 32 v1), (2, vi v2), (3, vi v3)]) (st' := [vi v3, vr 27 v0, vi v3, vr 27 v0]) (μ' := μ) (pc' := 35) [(.aload_n 0, 0, 0, 0, 0), (.getfield 22, 2, 4, 0, 0), (.iload_n 3, 0, 0, 0, 0), (.dup2, 0, 0, 0, 0)] (by decide +kernel) rfl rfl ?_
        refine sS_ial oI rfl (n := 6) (j := (ix v3)) (by decide +kernel) rfl rfl rfl (fun _ => ?_)
        refine sBk (lo' := [(0, vr 3 v0), (1, vr 32 v1), (2, vi v2), (3, vi v3)]) (st' := [vi ((rI μ 27 v0 (ix v3)) + 1), vi v3, vr 27 v0]) (μ' := μ) (pc' := 38) [(.iconst 1, 0, 0, 1, 0), (.iadd, 0, 0, 0, 0)] (by decide +kernel) rfl rfl ?_
        refine sS_ias oI rfl (n := 6) (j := (ix v3)) (by decide +kernel) rfl rfl rfl (fun _ => ?_)
        refine sBk (lo' := [(2, vi (v2 + 1)), (0, vr 3 v0), (1, vr 32 v1), (3, vi v3)]) (st' := []) (μ' := wI μ 27 v0 (ix v3) ((rI μ 27 v0 (ix v3)) + 1)) (pc' := 42) [(.iinc 2 1, 0, 0, 1, 0)] (by decide +kernel) rfl rfl ?_
        refine sWk (lo' := [(0, vr 3 v0), (1, vr 32 v1), (2, vi (v2 + 1)), (3, vi v3)]) [1, 2, 0, 3] rfl ?_
        exact X2_grind_32_J42_ok ih v0 v1 (v2 + 1) v3 (wI μ 27 v0 (ix v3) ((rI μ 27 v0 (ix v3)) + 1))
def X2_grind_32 (a0 : Nat) (a1 : Nat) (μ : sM) : Option (Int32 × sM) :=
  X2_grind_32_L4 fuN a0 a1 0 0 μ
theorem tX2_grind_32 (a0 : Nat) (a1 : Nat) (μ : sM) : sMt yX2_grind cX2_grind 4 (some .int) 1 [vr 3 a0, vr 32 a1] μ (oI (X2_grind_32 a0 a1 μ)) := by
  refine sMt_of (own := 2) (bl := false) (by decide +kernel) rfl (Nat.le_of_ble_eq_true rfl) (fun r ρ h => ?_) ?_
  · obtain ⟨q, -, hq⟩ := Option.map_eq_some_iff.mp h
    cases hq
    exact Or.inl rfl
  · unfold X2_grind_32
    show sOk 2 cX2_grind 4 1 false 0 [(0, vr 3 a0), (1, vr 32 a1)] [] μ _
    refine sBk (lo' := [(3, vi 0), (2, vi 0), (0, vr 3 a0), (1, vr 32 a1)]) (st' := []) (μ' := μ) (pc' := 4) [(.iconst 0, 0, 0, 0, 0), (.istore_n 2, 0, 0, 0, 0), (.iconst 0, 0, 0, 0, 0), (.istore_n 3, 0, 0, 0, 0)] (by decide +kernel) rfl rfl ?_
    refine sWk (lo' := [(0, vr 3 a0), (1, vr 32 a1), (2, vi 0), (3, vi 0)]) [2, 3, 1, 0] rfl ?_
    exact X2_grind_32_L4_ok fuN a0 a1 0 0 μ
