/-! ClockRiver$Reaches.add -/
def X3_add (a0 : Nat) (a1 : Int64) (a3 : Int32) (a4 : Int32) (a5 : Int32) (μ : sM) : Option sM :=
  if 6 ≤ (rI μ 4 a0 0) then
    some μ
  else
    if inb (rI μ 4 a0 0) 6 = true then
      if inb (rI μ 4 a0 0) 6 = true then
        if inb (rI μ 4 a0 0) 6 = true then
          if inb (rI μ 4 a0 0) 6 = true then
            some (wI (wI (wI (wI (wL μ 28 a0 (ix (rI μ 4 a0 0)) a1) 29 a0 (ix (rI μ 4 a0 0)) a3) 30 a0 (ix (rI μ 4 a0 0)) a4) 31 a0 (ix (rI μ 4 a0 0)) a5) 4 a0 0 ((rI μ 4 a0 0) + 1))
          else none
        else none
      else none
    else none
theorem tX3_add (a0 : Nat) (a1 : Int64) (a3 : Int32) (a4 : Int32) (a5 : Int32) (μ : sM) : sMt yX3_add cX3_add 6 none 1 [vr 4 a0, vl a1, vi a3, vi a4, vi a5] μ (oV (X3_add a0 a1 a3 a4 a5 μ)) := by
  refine sMt_of (own := 3) (bl := false) (by decide +kernel) rfl (Nat.le_of_ble_eq_true rfl) (fun r ρ h => ?_) ?_
  · obtain ⟨q, -, hq⟩ := Option.map_eq_some_iff.mp h
    cases hq
    exact rfl
  · unfold X3_add
    show sOk 3 cX3_add 6 1 false 0 [(0, vr 4 a0), (1, vl a1), (3, vi a3), (4, vi a4), (5, vi a5)] [] μ _
    refine sBk (lo' := [(0, vr 4 a0), (1, vl a1), (3, vi a3), (4, vi a4), (5, vi a5)]) (st' := [vi 6, vi (rI μ 4 a0 0)]) (μ' := μ) (pc' := 6) [(.aload_n 0, 0, 0, 0, 0), (.getfield 31, 3, 0, 0, 0), (.bipush 6, 0, 0, 6, 0)] (by decide +kernel) rfl rfl ?_
    refine sIc_ge oV (off := 55) (tgt := 61) (by decide +kernel) (by decide) (fun _ => ?_) (fun _ => ?_)
    · exact sRv (by decide +kernel)
    · refine sBk (lo' := [(0, vr 4 a0), (1, vl a1), (3, vi a3), (4, vi a4), (5, vi a5)]) (st' := [vl a1, vi (rI μ 4 a0 0), vr 28 a0]) (μ' := μ) (pc' := 18) [(.aload_n 0, 0, 0, 0, 0), (.getfield 9, 3, 1, 0, 0), (.aload_n 0, 0, 0, 0, 0), (.getfield 31, 3, 0, 0, 0), (.lload_n 1, 0, 0, 0, 0)] (by decide +kernel) rfl rfl ?_
      refine sS_las oV rfl (n := 6) (j := (ix (rI μ 4 a0 0))) (by decide +kernel) rfl rfl rfl (fun _ => ?_)
      refine sBk (lo' := [(0, vr 4 a0), (1, vl a1), (3, vi a3), (4, vi a4), (5, vi a5)]) (st' := [vi a3, vi (rI μ 4 a0 0), vr 29 a0]) (μ' := wL μ 28 a0 (ix (rI μ 4 a0 0)) a1) (pc' := 28) [(.aload_n 0, 0, 0, 0, 0), (.getfield 15, 3, 2, 0, 0), (.aload_n 0, 0, 0, 0, 0), (.getfield 31, 3, 0, 0, 0), (.iload_n 3, 0, 0, 0, 0)] (by decide +kernel) rfl rfl ?_
      refine sS_ias oV rfl (n := 6) (j := (ix (rI μ 4 a0 0))) (by decide +kernel) rfl rfl rfl (fun _ => ?_)
      refine sBk (lo' := [(0, vr 4 a0), (1, vl a1), (3, vi a3), (4, vi a4), (5, vi a5)]) (st' := [vi a4, vi (rI μ 4 a0 0), vr 30 a0]) (μ' := wI (wL μ 28 a0 (ix (rI μ 4 a0 0)) a1) 29 a0 (ix (rI μ 4 a0 0)) a3) (pc' := 39) [(.aload_n 0, 0, 0, 0, 0), (.getfield 19, 3, 3, 0, 0), (.aload_n 0, 0, 0, 0, 0), (.getfield 31, 3, 0, 0, 0), (.iload 4, 0, 0, 0, 0)] (by decide +kernel) rfl rfl ?_
      refine sS_ias oV rfl (n := 6) (j := (ix (rI μ 4 a0 0))) (by decide +kernel) rfl rfl rfl (fun _ => ?_)
      refine sBk (lo' := [(0, vr 4 a0), (1, vl a1), (3, vi a3), (4, vi a4), (5, vi a5)]) (st' := [vi a5, vi (rI μ 4 a0 0), vr 31 a0]) (μ' := wI (wI (wL μ 28 a0 (ix (rI μ 4 a0 0)) a1) 29 a0 (ix (rI μ 4 a0 0)) a3) 30 a0 (ix (rI μ 4 a0 0)) a4) (pc' := 50) [(.aload_n 0, 0, 0, 0, 0), (.getfield 22, 3, 4, 0, 0), (.aload_n 0, 0, 0, 0, 0), (.getfield 31, 3, 0, 0, 0), (.iload 5, 0, 0, 0, 0)] (by decide +kernel) rfl rfl ?_
      refine sS_ias oV rfl (n := 6) (j := (ix (rI μ 4 a0 0))) (by decide +kernel) rfl rfl rfl (fun _ => ?_)
      refine sBk (lo' := [(0, vr 4 a0), (1, vl a1), (3, vi a3), (4, vi a4), (5, vi a5)]) (st' := []) (μ' := wI (wI (wI (wI (wL μ 28 a0 (ix (rI μ 4 a0 0)) a1) 29 a0 (ix (rI μ 4 a0 0)) a3) 30 a0 (ix (rI μ 4 a0 0)) a4) 31 a0 (ix (rI μ 4 a0 0)) a5) 4 a0 0 ((rI μ 4 a0 0) + 1)) (pc' := 61) [(.aload_n 0, 0, 0, 0, 0), (.dup, 0, 0, 0, 0), (.getfield 31, 3, 0, 0, 0), (.iconst 1, 0, 0, 1, 0), (.iadd, 0, 0, 0, 0), (.putfield 31, 3, 0, 0, 0)] (by decide +kernel) rfl rfl ?_
      exact sRv (by decide +kernel)
/-! ClockRiver$Reaches.copyFrom -/
def X3_copyFrom (a0 : Nat) (a1 : Nat) (μ : sM) : Option sM :=
  if cpo 0 0 (rI (wI μ 4 a0 0 (rI μ 4 a1 0)) 4 a0 0) 6 6 = true then
    if cpo 0 0 (rI (wI μ 4 a0 0 (rI μ 4 a1 0)) 4 a0 0) 6 6 = true then
      if cpo 0 0 (rI (wI μ 4 a0 0 (rI μ 4 a1 0)) 4 a0 0) 6 6 = true then
        if cpo 0 0 (rI (wI μ 4 a0 0 (rI μ 4 a1 0)) 4 a0 0) 6 6 = true then
          some (cI (cI (cI (cL (wI μ 4 a0 0 (rI μ 4 a1 0)) 28 a1 (ix 0) 28 a0 (ix 0) (ix (rI (wI μ 4 a0 0 (rI μ 4 a1 0)) 4 a0 0))) 29 a1 (ix 0) 29 a0 (ix 0) (ix (rI (wI μ 4 a0 0 (rI μ 4 a1 0)) 4 a0 0))) 30 a1 (ix 0) 30 a0 (ix 0) (ix (rI (wI μ 4 a0 0 (rI μ 4 a1 0)) 4 a0 0))) 31 a1 (ix 0) 31 a0 (ix 0) (ix (rI (wI μ 4 a0 0 (rI μ 4 a1 0)) 4 a0 0)))
        else none
      else none
    else none
  else none
theorem tX3_copyFrom (a0 : Nat) (a1 : Nat) (μ : sM) : sMt yX3_copyFrom cX3_copyFrom 2 none 1 [vr 4 a0, vr 4 a1] μ (oV (X3_copyFrom a0 a1 μ)) := by
  refine sMt_of (own := 3) (bl := false) (by decide +kernel) rfl (Nat.le_of_ble_eq_true rfl) (fun r ρ h => ?_) ?_
  · obtain ⟨q, -, hq⟩ := Option.map_eq_some_iff.mp h
    cases hq
    exact rfl
  · unfold X3_copyFrom
    show sOk 3 cX3_copyFrom 2 1 false 0 [(0, vr 4 a0), (1, vr 4 a1)] [] μ _
    refine sBk (lo' := [(0, vr 4 a0), (1, vr 4 a1)]) (st' := [vi (rI (wI μ 4 a0 0 (rI μ 4 a1 0)) 4 a0 0), vi 0, vr 28 a0, vi 0, vr 28 a1]) (μ' := wI μ 4 a0 0 (rI μ 4 a1 0)) (pc' := 22) [(.aload_n 0, 0, 0, 0, 0), (.aload_n 1, 0, 0, 0, 0), (.getfield 31, 3, 0, 0, 0), (.putfield 31, 3, 0, 0, 0), (.aload_n 1, 0, 0, 0, 0), (.getfield 9, 3, 1, 0, 0), (.iconst 0, 0, 0, 0, 0), (.aload_n 0, 0, 0, 0, 0), (.getfield 9, 3, 1, 0, 0), (.iconst 0, 0, 0, 0, 0), (.aload_n 0, 0, 0, 0, 0), (.getfield 31, 3, 0, 0, 0)] (by decide +kernel) rfl rfl ?_
    refine sCk oV rfl (fun h => ?_)
    refine sCpL (q0 := (28, a1)) (q1 := (28, a0)) (idx := 35) (p1 := 934) (by decide +kernel) rfl rfl (by decide) h ?_
    refine sBk (lo' := [(0, vr 4 a0), (1, vr 4 a1)]) (st' := [vi (rI (wI μ 4 a0 0 (rI μ 4 a1 0)) 4 a0 0), vi 0, vr 29 a0, vi 0, vr 29 a1]) (μ' := cL (wI μ 4 a0 0 (rI μ 4 a1 0)) 28 a1 (ix 0) 28 a0 (ix 0) (ix (rI (wI μ 4 a0 0 (rI μ 4 a1 0)) 4 a0 0))) (pc' := 39) [(.aload_n 1, 0, 0, 0, 0), (.getfield 15, 3, 2, 0, 0), (.iconst 0, 0, 0, 0, 0), (.aload_n 0, 0, 0, 0, 0), (.getfield 15, 3, 2, 0, 0), (.iconst 0, 0, 0, 0, 0), (.aload_n 0, 0, 0, 0, 0), (.getfield 31, 3, 0, 0, 0)] (by decide +kernel) rfl rfl ?_
    refine sCk oV rfl (fun h => ?_)
    refine sCpI (q0 := (29, a1)) (q1 := (29, a0)) (idx := 35) (p1 := 934) (by decide +kernel) rfl rfl (by decide) h ?_
    refine sBk (lo' := [(0, vr 4 a0), (1, vr 4 a1)]) (st' := [vi (rI (wI μ 4 a0 0 (rI μ 4 a1 0)) 4 a0 0), vi 0, vr 30 a0, vi 0, vr 30 a1]) (μ' := cI (cL (wI μ 4 a0 0 (rI μ 4 a1 0)) 28 a1 (ix 0) 28 a0 (ix 0) (ix (rI (wI μ 4 a0 0 (rI μ 4 a1 0)) 4 a0 0))) 29 a1 (ix 0) 29 a0 (ix 0) (ix (rI (wI μ 4 a0 0 (rI μ 4 a1 0)) 4 a0 0))) (pc' := 56) [(.aload_n 1, 0, 0, 0, 0), (.getfield 19, 3, 3, 0, 0), (.iconst 0, 0, 0, 0, 0), (.aload_n 0, 0, 0, 0, 0), (.getfield 19, 3, 3, 0, 0), (.iconst 0, 0, 0, 0, 0), (.aload_n 0, 0, 0, 0, 0), (.getfield 31, 3, 0, 0, 0)] (by decide +kernel) rfl rfl ?_
    refine sCk oV rfl (fun h => ?_)
    refine sCpI (q0 := (30, a1)) (q1 := (30, a0)) (idx := 35) (p1 := 934) (by decide +kernel) rfl rfl (by decide) h ?_
    refine sBk (lo' := [(0, vr 4 a0), (1, vr 4 a1)]) (st' := [vi (rI (wI μ 4 a0 0 (rI μ 4 a1 0)) 4 a0 0), vi 0, vr 31 a0, vi 0, vr 31 a1]) (μ' := cI (cI (cL (wI μ 4 a0 0 (rI μ 4 a1 0)) 28 a1 (ix 0) 28 a0 (ix 0) (ix (rI (wI μ 4 a0 0 (rI μ 4 a1 0)) 4 a0 0))) 29 a1 (ix 0) 29 a0 (ix 0) (ix (rI (wI μ 4 a0 0 (rI μ 4 a1 0)) 4 a0 0))) 30 a1 (ix 0) 30 a0 (ix 0) (ix (rI (wI μ 4 a0 0 (rI μ 4 a1 0)) 4 a0 0))) (pc' := 73) [(.aload_n 1, 0, 0, 0, 0), (.getfield 22, 3, 4, 0, 0), (.iconst 0, 0, 0, 0, 0), (.aload_n 0, 0, 0, 0, 0), (.getfield 22, 3, 4, 0, 0), (.iconst 0, 0, 0, 0, 0), (.aload_n 0, 0, 0, 0, 0), (.getfield 31, 3, 0, 0, 0)] (by decide +kernel) rfl rfl ?_
    refine sCk oV rfl (fun h => ?_)
    refine sCpI (q0 := (31, a1)) (q1 := (31, a0)) (idx := 35) (p1 := 934) (by decide +kernel) rfl rfl (by decide) h ?_
    exact sRv (by decide +kernel)
/-! ClockRiver$Reaches.allHeld -/
def X3_allHeld_L4 : Nat → Nat → Int32 → Int32 → sM → Option (Int32 × sM)
  | 0, _, _, _, _ => none
  | n + 1, v0, v1, v2, μ =>
    if (rI μ 4 v0 0) ≤ v2 then
      some (v1, μ)
    else
      if inb v2 6 = true then
        X3_allHeld_L4 n v0 (v1 + (rI μ 31 v0 (ix v2))) (v2 + 1) μ
      else none
theorem X3_allHeld_L4_ok : ∀ (n : Nat) (v0 : Nat) (v1 : Int32) (v2 : Int32) (μ : sM), sOk 3 cX3_allHeld 3 1 false 4 [(0, vr 4 v0), (1, vi v1), (2, vi v2)] [] μ (oI (X3_allHeld_L4 n v0 v1 v2 μ)) := by
  intro n
  induction n with
  | zero =>
    intros
    exact sNo
  | succ n ih =>
    intro v0 v1 v2 μ
    unfold X3_allHeld_L4
    refine sBk (lo' := [(0, vr 4 v0), (1, vi v1), (2, vi v2)]) (st' := [vi (rI μ 4 v0 0), vi v2]) (μ' := μ) (pc' := 9) [(.iload_n 2, 0, 0, 0, 0), (.aload_n 0, 0, 0, 0, 0), (.getfield 31, 3, 0, 0, 0)] (by decide +kernel) rfl rfl ?_
    refine sIc_ge oI (off := 18) (tgt := 27) (by decide +kernel) (by decide) (fun _ => ?_) (fun _ => ?_)
    · refine sBk (lo' := [(0, vr 4 v0), (1, vi v1), (2, vi v2)]) (st' := [vi v1]) (μ' := μ) (pc' := 28) [(.iload_n 1, 0, 0, 0, 0)] (by decide +kernel) rfl rfl ?_
      exact sRi (by decide +kernel) (fun h => by cases h)
    · refine sBk (lo' := [(0, vr 4 v0), (1, vi v1), (2, vi v2)]) (st' := [vi v2, vr 31 v0, vi v1]) (μ' := μ) (pc' := 18) [(.iload_n 1, 0, 0, 0, 0), (.aload_n 0, 0, 0, 0, 0), (.getfield 22, 3, 4, 0, 0), (.iload_n 2, 0, 0, 0, 0)] (by decide +kernel) rfl rfl ?_
      refine sS_ial oI rfl (n := 6) (j := (ix v2)) (by decide +kernel) rfl rfl rfl (fun _ => ?_)
      refine sBk (lo' := [(2, vi (v2 + 1)), (1, vi (v1 + (rI μ 31 v0 (ix v2)))), (0, vr 4 v0)]) (st' := []) (μ' := μ) (pc' := 24) [(.iadd, 0, 0, 0, 0), (.istore_n 1, 0, 0, 0, 0), (.iinc 2 1, 0, 0, 1, 0)] (by decide +kernel) rfl rfl ?_
      refine sGt (off := (-20)) (tgt := 4) (by decide +kernel) (by decide) ?_
      refine sWk (lo' := [(0, vr 4 v0), (1, vi (v1 + (rI μ 31 v0 (ix v2)))), (2, vi (v2 + 1))]) [2, 1, 0] rfl ?_
      exact ih v0 (v1 + (rI μ 31 v0 (ix v2))) (v2 + 1) μ
def X3_allHeld (a0 : Nat) (μ : sM) : Option (Int32 × sM) :=
  X3_allHeld_L4 fuN a0 0 0 μ
theorem tX3_allHeld (a0 : Nat) (μ : sM) : sMt yX3_allHeld cX3_allHeld 3 (some .int) 1 [vr 4 a0] μ (oI (X3_allHeld a0 μ)) := by
  refine sMt_of (own := 3) (bl := false) (by decide +kernel) rfl (Nat.le_of_ble_eq_true rfl) (fun r ρ h => ?_) ?_
  · obtain ⟨q, -, hq⟩ := Option.map_eq_some_iff.mp h
    cases hq
    exact Or.inl rfl
  · unfold X3_allHeld
    show sOk 3 cX3_allHeld 3 1 false 0 [(0, vr 4 a0)] [] μ _
    refine sBk (lo' := [(2, vi 0), (1, vi 0), (0, vr 4 a0)]) (st' := []) (μ' := μ) (pc' := 4) [(.iconst 0, 0, 0, 0, 0), (.istore_n 1, 0, 0, 0, 0), (.iconst 0, 0, 0, 0, 0), (.istore_n 2, 0, 0, 0, 0)] (by decide +kernel) rfl rfl ?_
    refine sWk (lo' := [(0, vr 4 a0), (1, vi 0), (2, vi 0)]) [2, 1, 0] rfl ?_
    exact X3_allHeld_L4_ok fuN a0 0 0 μ
/-! ClockRiver$Reaches.letPass -/
def X3_letPass_L2 : Nat → Nat → Int32 → sM → Option sM
  | 0, _, _, _ => none
  | n + 1, v0, v1, μ =>
    if (rI μ 4 v0 0) ≤ v1 then
      some μ
    else
      if inb v1 6 = true then
        if inb v1 6 = true then
          if inb v1 6 = true then
            X3_letPass_L2 n v0 (v1 + 1) (wI μ 32 v0 (ix v1) (imn (rI μ 31 v0 (ix v1)) (rI μ 30 v0 (ix v1))))
          else none
        else none
      else none
theorem X3_letPass_L2_ok : ∀ (n : Nat) (v0 : Nat) (v1 : Int32) (μ : sM), sOk 3 cX3_letPass 2 1 false 2 [(0, vr 4 v0), (1, vi v1)] [] μ (oV (X3_letPass_L2 n v0 v1 μ)) := by
  intro n
  induction n with
  | zero =>
    intros
    exact sNo
  | succ n ih =>
    intro v0 v1 μ
    unfold X3_letPass_L2
    refine sBk (lo' := [(0, vr 4 v0), (1, vi v1)]) (st' := [vi (rI μ 4 v0 0), vi v1]) (μ' := μ) (pc' := 7) [(.iload_n 1, 0, 0, 0, 0), (.aload_n 0, 0, 0, 0, 0), (.getfield 31, 3, 0, 0, 0)] (by decide +kernel) rfl rfl ?_
    refine sIc_ge oV (off := 30) (tgt := 37) (by decide +kernel) (by decide) (fun _ => ?_) (fun _ => ?_)
    · exact sRv (by decide +kernel)
    · refine sBk (lo' := [(0, vr 4 v0), (1, vi v1)]) (st' := [vi v1, vr 31 v0, vi v1, vr 32 v0]) (μ' := μ) (pc' := 20) [(.aload_n 0, 0, 0, 0, 0), (.getfield 25, 3, 5, 0, 0), (.iload_n 1, 0, 0, 0, 0), (.aload_n 0, 0, 0, 0, 0), (.getfield 22, 3, 4, 0, 0), (.iload_n 1, 0, 0, 0, 0)] (by decide +kernel) rfl rfl ?_
      refine sS_ial oV rfl (n := 6) (j := (ix v1)) (by decide +kernel) rfl rfl rfl (fun _ => ?_)
      refine sBk (lo' := [(0, vr 4 v0), (1, vi v1)]) (st' := [vi v1, vr 30 v0, vi (rI μ 31 v0 (ix v1)), vi v1, vr 32 v0]) (μ' := μ) (pc' := 26) [(.aload_n 0, 0, 0, 0, 0), (.getfield 19, 3, 3, 0, 0), (.iload_n 1, 0, 0, 0, 0)] (by decide +kernel) rfl rfl ?_
      refine sS_ial oV rfl (n := 6) (j := (ix v1)) (by decide +kernel) rfl rfl rfl (fun _ => ?_)
      refine sMin (idx := 41) (p1 := 1100) (by decide +kernel) (by decide) (Nat.le_of_ble_eq_true rfl) ?_
      refine sS_ias oV rfl (n := 6) (j := (ix v1)) (by decide +kernel) rfl rfl rfl (fun _ => ?_)
      refine sBk (lo' := [(1, vi (v1 + 1)), (0, vr 4 v0)]) (st' := []) (μ' := wI μ 32 v0 (ix v1) (imn (rI μ 31 v0 (ix v1)) (rI μ 30 v0 (ix v1)))) (pc' := 34) [(.iinc 1 1, 0, 0, 1, 0)] (by decide +kernel) rfl rfl ?_
      refine sGt (off := (-32)) (tgt := 2) (by decide +kernel) (by decide) ?_
      refine sWk (lo' := [(0, vr 4 v0), (1, vi (v1 + 1))]) [1, 0] rfl ?_
      exact ih v0 (v1 + 1) (wI μ 32 v0 (ix v1) (imn (rI μ 31 v0 (ix v1)) (rI μ 30 v0 (ix v1))))
def X3_letPass (a0 : Nat) (μ : sM) : Option sM :=
  X3_letPass_L2 fuN a0 0 μ
theorem tX3_letPass (a0 : Nat) (μ : sM) : sMt yX3_letPass cX3_letPass 2 none 1 [vr 4 a0] μ (oV (X3_letPass a0 μ)) := by
  refine sMt_of (own := 3) (bl := false) (by decide +kernel) rfl (Nat.le_of_ble_eq_true rfl) (fun r ρ h => ?_) ?_
  · obtain ⟨q, -, hq⟩ := Option.map_eq_some_iff.mp h
    cases hq
    exact rfl
  · unfold X3_letPass
    show sOk 3 cX3_letPass 2 1 false 0 [(0, vr 4 a0)] [] μ _
    refine sBk (lo' := [(1, vi 0), (0, vr 4 a0)]) (st' := []) (μ' := μ) (pc' := 2) [(.iconst 0, 0, 0, 0, 0), (.istore_n 1, 0, 0, 0, 0)] (by decide +kernel) rfl rfl ?_
    refine sWk (lo' := [(0, vr 4 a0), (1, vi 0)]) [1, 0] rfl ?_
    exact X3_letPass_L2_ok fuN a0 0 μ
/-! ClockRiver$Reaches.addEach -/
def X3_addEach_L2 : Nat → Nat → Int32 → Int32 → sM → Option sM
  | 0, _, _, _, _ => none
  | n + 1, v0, v1, v2, μ =>
    if (rI μ 4 v0 0) ≤ v2 then
      some μ
    else
      if inb v2 6 = true then
        if inb v2 6 = true then
          X3_addEach_L2 n v0 v1 (v2 + 1) (wI μ 31 v0 (ix v2) ((rI μ 31 v0 (ix v2)) + v1))
        else none
      else none
theorem X3_addEach_L2_ok : ∀ (n : Nat) (v0 : Nat) (v1 : Int32) (v2 : Int32) (μ : sM), sOk 3 cX3_addEach 3 1 false 2 [(0, vr 4 v0), (1, vi v1), (2, vi v2)] [] μ (oV (X3_addEach_L2 n v0 v1 v2 μ)) := by
  intro n
  induction n with
  | zero =>
    intros
    exact sNo
  | succ n ih =>
    intro v0 v1 v2 μ
    unfold X3_addEach_L2
    refine sBk (lo' := [(0, vr 4 v0), (1, vi v1), (2, vi v2)]) (st' := [vi (rI μ 4 v0 0), vi v2]) (μ' := μ) (pc' := 7) [(.iload_n 2, 0, 0, 0, 0), (.aload_n 0, 0, 0, 0, 0), (.getfield 31, 3, 0, 0, 0)] (by decide +kernel) rfl rfl ?_
    refine sIc_ge oV (off := 19) (tgt := 26) (by decide +kernel) (by decide) (fun _ => ?_) (fun _ => ?_)
    · exact sRv (by decide +kernel)
    · refine sBk (lo' := [(0, vr 4 v0), (1, vi v1), (2, vi v2)]) (st' := [vi v2, vr 31 v0, vi v2, vr 31 v0]) (μ' := μ) (pc' := 16) [(.aload_n 0, 0, 0, 0, 0), (.getfield 22, 3, 4, 0, 0), (.iload_n 2, 0, 0, 0, 0), (.dup2, 0, 0, 0, 0)] (by decide +kernel) rfl rfl ?_
      refine sS_ial oV rfl (n := 6) (j := (ix v2)) (by decide +kernel) rfl rfl rfl (fun _ => ?_)
      refine sBk (lo' := [(0, vr 4 v0), (1, vi v1), (2, vi v2)]) (st' := [vi ((rI μ 31 v0 (ix v2)) + v1), vi v2, vr 31 v0]) (μ' := μ) (pc' := 19) [(.iload_n 1, 0, 0, 0, 0), (.iadd, 0, 0, 0, 0)] (by decide +kernel) rfl rfl ?_
      refine sS_ias oV rfl (n := 6) (j := (ix v2)) (by decide +kernel) rfl rfl rfl (fun _ => ?_)
      refine sBk (lo' := [(2, vi (v2 + 1)), (0, vr 4 v0), (1, vi v1)]) (st' := []) (μ' := wI μ 31 v0 (ix v2) ((rI μ 31 v0 (ix v2)) + v1)) (pc' := 23) [(.iinc 2 1, 0, 0, 1, 0)] (by decide +kernel) rfl rfl ?_
      refine sGt (off := (-21)) (tgt := 2) (by decide +kernel) (by decide) ?_
      refine sWk (lo' := [(0, vr 4 v0), (1, vi v1), (2, vi (v2 + 1))]) [1, 2, 0] rfl ?_
      exact ih v0 v1 (v2 + 1) (wI μ 31 v0 (ix v2) ((rI μ 31 v0 (ix v2)) + v1))
def X3_addEach (a0 : Nat) (a1 : Int32) (μ : sM) : Option sM :=
  X3_addEach_L2 fuN a0 a1 0 μ
theorem tX3_addEach (a0 : Nat) (a1 : Int32) (μ : sM) : sMt yX3_addEach cX3_addEach 3 none 1 [vr 4 a0, vi a1] μ (oV (X3_addEach a0 a1 μ)) := by
  refine sMt_of (own := 3) (bl := false) (by decide +kernel) rfl (Nat.le_of_ble_eq_true rfl) (fun r ρ h => ?_) ?_
  · obtain ⟨q, -, hq⟩ := Option.map_eq_some_iff.mp h
    cases hq
    exact rfl
  · unfold X3_addEach
    show sOk 3 cX3_addEach 3 1 false 0 [(0, vr 4 a0), (1, vi a1)] [] μ _
    refine sBk (lo' := [(2, vi 0), (0, vr 4 a0), (1, vi a1)]) (st' := []) (μ' := μ) (pc' := 2) [(.iconst 0, 0, 0, 0, 0), (.istore_n 2, 0, 0, 0, 0)] (by decide +kernel) rfl rfl ?_
    refine sWk (lo' := [(0, vr 4 a0), (1, vi a1), (2, vi 0)]) [1, 2, 0] rfl ?_
    exact X3_addEach_L2_ok fuN a0 a1 0 μ
/-! ClockRiver$Reaches.spill -/
def X3_spill_L4 : Nat → Nat → Int32 → Int32 → sM → Option (Int32 × sM)
  | 0, _, _, _, _ => none
  | n + 1, v0, v1, v2, μ =>
    if (rI μ 4 v0 0) ≤ v2 then
      some (v1, μ)
    else
      if inb v2 6 = true then
        if inb v2 6 = true then
          if inb v2 6 = true then
            if inb v2 6 = true then
              if inb v2 6 = true then
                if inb v2 6 = true then
                  if inb v2 6 = true then
                    X3_spill_L4 n v0 (v1 + (rI (wI μ 33 v0 (ix v2) (imx 0 ((rI μ 31 v0 (ix v2)) - (rI μ 29 v0 (ix v2))))) 33 v0 (ix v2))) (v2 + 1) (wI (wI μ 33 v0 (ix v2) (imx 0 ((rI μ 31 v0 (ix v2)) - (rI μ 29 v0 (ix v2))))) 31 v0 (ix v2) ((rI μ 31 v0 (ix v2)) - (rI (wI μ 33 v0 (ix v2) (imx 0 ((rI μ 31 v0 (ix v2)) - (rI μ 29 v0 (ix v2))))) 33 v0 (ix v2))))
                  else none
                else none
              else none
            else none
          else none
        else none
      else none
theorem X3_spill_L4_ok : ∀ (n : Nat) (v0 : Nat) (v1 : Int32) (v2 : Int32) (μ : sM), sOk 3 cX3_spill 3 1 false 4 [(0, vr 4 v0), (1, vi v1), (2, vi v2)] [] μ (oI (X3_spill_L4 n v0 v1 v2 μ)) := by
  intro n
  induction n with
  | zero =>
    intros
    exact sNo
  | succ n ih =>
    intro v0 v1 v2 μ
    unfold X3_spill_L4
    refine sBk (lo' := [(0, vr 4 v0), (1, vi v1), (2, vi v2)]) (st' := [vi (rI μ 4 v0 0), vi v2]) (μ' := μ) (pc' := 9) [(.iload_n 2, 0, 0, 0, 0), (.aload_n 0, 0, 0, 0, 0), (.getfield 31, 3, 0, 0, 0)] (by decide +kernel) rfl rfl ?_
    refine sIc_ge oI (off := 56) (tgt := 65) (by decide +kernel) (by decide) (fun _ => ?_) (fun _ => ?_)
    · refine sBk (lo' := [(0, vr 4 v0), (1, vi v1), (2, vi v2)]) (st' := [vi v1]) (μ' := μ) (pc' := 66) [(.iload_n 1, 0, 0, 0, 0)] (by decide +kernel) rfl rfl ?_
      exact sRi (by decide +kernel) (fun h => by cases h)
    · refine sBk (lo' := [(0, vr 4 v0), (1, vi v1), (2, vi v2)]) (st' := [vi v2, vr 31 v0, vi 0, vi v2, vr 33 v0]) (μ' := μ) (pc' := 23) [(.aload_n 0, 0, 0, 0, 0), (.getfield 28, 3, 6, 0, 0), (.iload_n 2, 0, 0, 0, 0), (.iconst 0, 0, 0, 0, 0), (.aload_n 0, 0, 0, 0, 0), (.getfield 22, 3, 4, 0, 0), (.iload_n 2, 0, 0, 0, 0)] (by decide +kernel) rfl rfl ?_
      refine sS_ial oI rfl (n := 6) (j := (ix v2)) (by decide +kernel) rfl rfl rfl (fun _ => ?_)
      refine sBk (lo' := [(0, vr 4 v0), (1, vi v1), (2, vi v2)]) (st' := [vi v2, vr 29 v0, vi (rI μ 31 v0 (ix v2)), vi 0, vi v2, vr 33 v0]) (μ' := μ) (pc' := 29) [(.aload_n 0, 0, 0, 0, 0), (.getfield 15, 3, 2, 0, 0), (.iload_n 2, 0, 0, 0, 0)] (by decide +kernel) rfl rfl ?_
      refine sS_ial oI rfl (n := 6) (j := (ix v2)) (by decide +kernel) rfl rfl rfl (fun _ => ?_)
      refine sBk (lo' := [(0, vr 4 v0), (1, vi v1), (2, vi v2)]) (st' := [vi ((rI μ 31 v0 (ix v2)) - (rI μ 29 v0 (ix v2))), vi 0, vi v2, vr 33 v0]) (μ' := μ) (pc' := 31) [(.isub, 0, 0, 0, 0)] (by decide +kernel) rfl rfl ?_
      refine sMax (idx := 47) (p1 := 1117) (by decide +kernel) (by decide) (Nat.le_of_ble_eq_true rfl) ?_
      refine sS_ias oI rfl (n := 6) (j := (ix v2)) (by decide +kernel) rfl rfl rfl (fun _ => ?_)
      refine sBk (lo' := [(0, vr 4 v0), (1, vi v1), (2, vi v2)]) (st' := [vi v2, vr 31 v0, vi v2, vr 31 v0]) (μ' := wI μ 33 v0 (ix v2) (imx 0 ((rI μ 31 v0 (ix v2)) - (rI μ 29 v0 (ix v2))))) (pc' := 41) [(.aload_n 0, 0, 0, 0, 0), (.getfield 22, 3, 4, 0, 0), (.iload_n 2, 0, 0, 0, 0), (.dup2, 0, 0, 0, 0)] (by decide +kernel) rfl rfl ?_
      refine sS_ial oI rfl (n := 6) (j := (ix v2)) (by decide +kernel) rfl rfl rfl (fun _ => ?_)
      refine sBk (lo' := [(0, vr 4 v0), (1, vi v1), (2, vi v2)]) (st' := [vi v2, vr 33 v0, vi (rI μ 31 v0 (ix v2)), vi v2, vr 31 v0]) (μ' := wI μ 33 v0 (ix v2) (imx 0 ((rI μ 31 v0 (ix v2)) - (rI μ 29 v0 (ix v2))))) (pc' := 47) [(.aload_n 0, 0, 0, 0, 0), (.getfield 28, 3, 6, 0, 0), (.iload_n 2, 0, 0, 0, 0)] (by decide +kernel) rfl rfl ?_
      refine sS_ial oI rfl (n := 6) (j := (ix v2)) (by decide +kernel) rfl rfl rfl (fun _ => ?_)
      refine sBk (lo' := [(0, vr 4 v0), (1, vi v1), (2, vi v2)]) (st' := [vi ((rI μ 31 v0 (ix v2)) - (rI (wI μ 33 v0 (ix v2) (imx 0 ((rI μ 31 v0 (ix v2)) - (rI μ 29 v0 (ix v2))))) 33 v0 (ix v2))), vi v2, vr 31 v0]) (μ' := wI μ 33 v0 (ix v2) (imx 0 ((rI μ 31 v0 (ix v2)) - (rI μ 29 v0 (ix v2))))) (pc' := 49) [(.isub, 0, 0, 0, 0)] (by decide +kernel) rfl rfl ?_
      refine sS_ias oI rfl (n := 6) (j := (ix v2)) (by decide +kernel) rfl rfl rfl (fun _ => ?_)
      refine sBk (lo' := [(0, vr 4 v0), (1, vi v1), (2, vi v2)]) (st' := [vi v2, vr 33 v0, vi v1]) (μ' := wI (wI μ 33 v0 (ix v2) (imx 0 ((rI μ 31 v0 (ix v2)) - (rI μ 29 v0 (ix v2))))) 31 v0 (ix v2) ((rI μ 31 v0 (ix v2)) - (rI (wI μ 33 v0 (ix v2) (imx 0 ((rI μ 31 v0 (ix v2)) - (rI μ 29 v0 (ix v2))))) 33 v0 (ix v2)))) (pc' := 56) [(.iload_n 1, 0, 0, 0, 0), (.aload_n 0, 0, 0, 0, 0), (.getfield 28, 3, 6, 0, 0), (.iload_n 2, 0, 0, 0, 0)] (by decide +kernel) rfl rfl ?_
      refine sS_ial oI rfl (n := 6) (j := (ix v2)) (by decide +kernel) rfl rfl rfl (fun _ => ?_)
      refine sBk (lo' := [(2, vi (v2 + 1)), (1, vi (v1 + (rI (wI μ 33 v0 (ix v2) (imx 0 ((rI μ 31 v0 (ix v2)) - (rI μ 29 v0 (ix v2))))) 33 v0 (ix v2)))), (0, vr 4 v0)]) (st' := []) (μ' := wI (wI μ 33 v0 (ix v2) (imx 0 ((rI μ 31 v0 (ix v2)) - (rI μ 29 v0 (ix v2))))) 31 v0 (ix v2) ((rI μ 31 v0 (ix v2)) - (rI (wI μ 33 v0 (ix v2) (imx 0 ((rI μ 31 v0 (ix v2)) - (rI μ 29 v0 (ix v2))))) 33 v0 (ix v2)))) (pc' := 62) [(.iadd, 0, 0, 0, 0), (.istore_n 1, 0, 0, 0, 0), (.iinc 2 1, 0, 0, 1, 0)] (by decide +kernel) rfl rfl ?_
      refine sGt (off := (-58)) (tgt := 4) (by decide +kernel) (by decide) ?_
      refine sWk (lo' := [(0, vr 4 v0), (1, vi (v1 + (rI (wI μ 33 v0 (ix v2) (imx 0 ((rI μ 31 v0 (ix v2)) - (rI μ 29 v0 (ix v2))))) 33 v0 (ix v2)))), (2, vi (v2 + 1))]) [2, 1, 0] rfl ?_
      exact ih v0 (v1 + (rI (wI μ 33 v0 (ix v2) (imx 0 ((rI μ 31 v0 (ix v2)) - (rI μ 29 v0 (ix v2))))) 33 v0 (ix v2))) (v2 + 1) (wI (wI μ 33 v0 (ix v2) (imx 0 ((rI μ 31 v0 (ix v2)) - (rI μ 29 v0 (ix v2))))) 31 v0 (ix v2) ((rI μ 31 v0 (ix v2)) - (rI (wI μ 33 v0 (ix v2) (imx 0 ((rI μ 31 v0 (ix v2)) - (rI μ 29 v0 (ix v2))))) 33 v0 (ix v2))))
def X3_spill (a0 : Nat) (μ : sM) : Option (Int32 × sM) :=
  X3_spill_L4 fuN a0 0 0 μ
theorem tX3_spill (a0 : Nat) (μ : sM) : sMt yX3_spill cX3_spill 3 (some .int) 1 [vr 4 a0] μ (oI (X3_spill a0 μ)) := by
  refine sMt_of (own := 3) (bl := false) (by decide +kernel) rfl (Nat.le_of_ble_eq_true rfl) (fun r ρ h => ?_) ?_
  · obtain ⟨q, -, hq⟩ := Option.map_eq_some_iff.mp h
    cases hq
    exact Or.inl rfl
  · unfold X3_spill
    show sOk 3 cX3_spill 3 1 false 0 [(0, vr 4 a0)] [] μ _
    refine sBk (lo' := [(2, vi 0), (1, vi 0), (0, vr 4 a0)]) (st' := []) (μ' := μ) (pc' := 4) [(.iconst 0, 0, 0, 0, 0), (.istore_n 1, 0, 0, 0, 0), (.iconst 0, 0, 0, 0, 0), (.istore_n 2, 0, 0, 0, 0)] (by decide +kernel) rfl rfl ?_
    refine sWk (lo' := [(0, vr 4 a0), (1, vi 0), (2, vi 0)]) [2, 1, 0] rfl ?_
    exact X3_spill_L4_ok fuN a0 0 0 μ
