/-! ClockRiver$Winders.add -/
def X10_add (a0 : Nat) (a1 : Int64) (a3 : Int32) (a4 : Int32) (μ : sM) : Option sM :=
  if 6 ≤ (rI μ 11 a0 0) then
    some μ
  else
    if inb (rI μ 11 a0 0) 6 = true then
      if inb (rI μ 11 a0 0) 6 = true then
        if inb (rI μ 11 a0 0) 6 = true then
          if inb (rI μ 11 a0 0) 6 = true then
            if inb (rI μ 11 a0 0) 6 = true then
              some (wI (wI (wI (wI (wI (wL μ 50 a0 (ix (rI μ 11 a0 0)) a1) 51 a0 (ix (rI μ 11 a0 0)) a3) 52 a0 (ix (rI μ 11 a0 0)) a4) 53 a0 (ix (rI μ 11 a0 0)) 0) 54 a0 (ix (rI μ 11 a0 0)) 0) 11 a0 0 ((rI μ 11 a0 0) + 1))
            else none
          else none
        else none
      else none
    else none
theorem tX10_add (a0 : Nat) (a1 : Int64) (a3 : Int32) (a4 : Int32) (μ : sM) : sMt yX10_add cX10_add 5 none 1 [vr 11 a0, vl a1, vi a3, vi a4] μ (oV (X10_add a0 a1 a3 a4 μ)) := by
  refine sMt_of (own := 10) (bl := false) (by decide +kernel) rfl (Nat.le_of_ble_eq_true rfl) (fun r ρ h => ?_) ?_
  · obtain ⟨q, -, hq⟩ := Option.map_eq_some_iff.mp h
    cases hq
    exact rfl
  · unfold X10_add
    show sOk 10 cX10_add 5 1 false 0 [(0, vr 11 a0), (1, vl a1), (3, vi a3), (4, vi a4)] [] μ _
    refine sBk (lo' := [(0, vr 11 a0), (1, vl a1), (3, vi a3), (4, vi a4)]) (st' := [vi 6, vi (rI μ 11 a0 0)]) (μ' := μ) (pc' := 6) [(.aload_n 0, 0, 0, 0, 0), (.getfield 28, 10, 0, 0, 0), (.bipush 6, 0, 0, 6, 0)] (by decide +kernel) rfl rfl ?_
    refine sIc_ge oV (off := 64) (tgt := 70) (by decide +kernel) (by decide) (fun _ => ?_) (fun _ => ?_)
    · exact sRv (by decide +kernel)
    · refine sBk (lo' := [(0, vr 11 a0), (1, vl a1), (3, vi a3), (4, vi a4)]) (st' := [vl a1, vi (rI μ 11 a0 0), vr 50 a0]) (μ' := μ) (pc' := 18) [(.aload_n 0, 0, 0, 0, 0), (.getfield 9, 10, 1, 0, 0), (.aload_n 0, 0, 0, 0, 0), (.getfield 28, 10, 0, 0, 0), (.lload_n 1, 0, 0, 0, 0)] (by decide +kernel) rfl rfl ?_
      refine sS_las oV rfl (n := 6) (j := (ix (rI μ 11 a0 0))) (by decide +kernel) rfl rfl rfl (fun _ => ?_)
      refine sBk (lo' := [(0, vr 11 a0), (1, vl a1), (3, vi a3), (4, vi a4)]) (st' := [vi a3, vi (rI μ 11 a0 0), vr 51 a0]) (μ' := wL μ 50 a0 (ix (rI μ 11 a0 0)) a1) (pc' := 28) [(.aload_n 0, 0, 0, 0, 0), (.getfield 15, 10, 2, 0, 0), (.aload_n 0, 0, 0, 0, 0), (.getfield 28, 10, 0, 0, 0), (.iload_n 3, 0, 0, 0, 0)] (by decide +kernel) rfl rfl ?_
      refine sS_ias oV rfl (n := 6) (j := (ix (rI μ 11 a0 0))) (by decide +kernel) rfl rfl rfl (fun _ => ?_)
      refine sBk (lo' := [(0, vr 11 a0), (1, vl a1), (3, vi a3), (4, vi a4)]) (st' := [vi a4, vi (rI μ 11 a0 0), vr 52 a0]) (μ' := wI (wL μ 50 a0 (ix (rI μ 11 a0 0)) a1) 51 a0 (ix (rI μ 11 a0 0)) a3) (pc' := 39) [(.aload_n 0, 0, 0, 0, 0), (.getfield 19, 10, 3, 0, 0), (.aload_n 0, 0, 0, 0, 0), (.getfield 28, 10, 0, 0, 0), (.iload 4, 0, 0, 0, 0)] (by decide +kernel) rfl rfl ?_
      refine sS_ias oV rfl (n := 6) (j := (ix (rI μ 11 a0 0))) (by decide +kernel) rfl rfl rfl (fun _ => ?_)
      refine sBk (lo' := [(0, vr 11 a0), (1, vl a1), (3, vi a3), (4, vi a4)]) (st' := [vi 0, vi (rI μ 11 a0 0), vr 53 a0]) (μ' := wI (wI (wL μ 50 a0 (ix (rI μ 11 a0 0)) a1) 51 a0 (ix (rI μ 11 a0 0)) a3) 52 a0 (ix (rI μ 11 a0 0)) a4) (pc' := 49) [(.aload_n 0, 0, 0, 0, 0), (.getfield 22, 10, 4, 0, 0), (.aload_n 0, 0, 0, 0, 0), (.getfield 28, 10, 0, 0, 0), (.iconst 0, 0, 0, 0, 0)] (by decide +kernel) rfl rfl ?_
      refine sS_ias oV rfl (n := 6) (j := (ix (rI μ 11 a0 0))) (by decide +kernel) rfl rfl rfl (fun _ => ?_)
      refine sBk (lo' := [(0, vr 11 a0), (1, vl a1), (3, vi a3), (4, vi a4)]) (st' := [vi 0, vi (rI μ 11 a0 0), vr 54 a0]) (μ' := wI (wI (wI (wL μ 50 a0 (ix (rI μ 11 a0 0)) a1) 51 a0 (ix (rI μ 11 a0 0)) a3) 52 a0 (ix (rI μ 11 a0 0)) a4) 53 a0 (ix (rI μ 11 a0 0)) 0) (pc' := 59) [(.aload_n 0, 0, 0, 0, 0), (.getfield 25, 10, 5, 0, 0), (.aload_n 0, 0, 0, 0, 0), (.getfield 28, 10, 0, 0, 0), (.iconst 0, 0, 0, 0, 0)] (by decide +kernel) rfl rfl ?_
      refine sS_ias oV rfl (n := 6) (j := (ix (rI μ 11 a0 0))) (by decide +kernel) rfl rfl rfl (fun _ => ?_)
      refine sBk (lo' := [(0, vr 11 a0), (1, vl a1), (3, vi a3), (4, vi a4)]) (st' := []) (μ' := wI (wI (wI (wI (wI (wL μ 50 a0 (ix (rI μ 11 a0 0)) a1) 51 a0 (ix (rI μ 11 a0 0)) a3) 52 a0 (ix (rI μ 11 a0 0)) a4) 53 a0 (ix (rI μ 11 a0 0)) 0) 54 a0 (ix (rI μ 11 a0 0)) 0) 11 a0 0 ((rI μ 11 a0 0) + 1)) (pc' := 70) [(.aload_n 0, 0, 0, 0, 0), (.dup, 0, 0, 0, 0), (.getfield 28, 10, 0, 0, 0), (.iconst 1, 0, 0, 1, 0), (.iadd, 0, 0, 0, 0), (.putfield 28, 10, 0, 0, 0)] (by decide +kernel) rfl rfl ?_
      exact sRv (by decide +kernel)
/-! ClockRiver$Winders.copyFrom -/
def X10_copyFrom (a0 : Nat) (a1 : Nat) (μ : sM) : Option sM :=
  if cpo 0 0 (rI (wI μ 11 a0 0 (rI μ 11 a1 0)) 11 a0 0) 6 6 = true then
    if cpo 0 0 (rI (wI μ 11 a0 0 (rI μ 11 a1 0)) 11 a0 0) 6 6 = true then
      if cpo 0 0 (rI (wI μ 11 a0 0 (rI μ 11 a1 0)) 11 a0 0) 6 6 = true then
        if cpo 0 0 (rI (wI μ 11 a0 0 (rI μ 11 a1 0)) 11 a0 0) 6 6 = true then
          if cpo 0 0 (rI (wI μ 11 a0 0 (rI μ 11 a1 0)) 11 a0 0) 6 6 = true then
            some (cI (cI (cI (cI (cL (wI μ 11 a0 0 (rI μ 11 a1 0)) 50 a1 (ix 0) 50 a0 (ix 0) (ix (rI (wI μ 11 a0 0 (rI μ 11 a1 0)) 11 a0 0))) 51 a1 (ix 0) 51 a0 (ix 0) (ix (rI (wI μ 11 a0 0 (rI μ 11 a1 0)) 11 a0 0))) 52 a1 (ix 0) 52 a0 (ix 0) (ix (rI (wI μ 11 a0 0 (rI μ 11 a1 0)) 11 a0 0))) 53 a1 (ix 0) 53 a0 (ix 0) (ix (rI (wI μ 11 a0 0 (rI μ 11 a1 0)) 11 a0 0))) 54 a1 (ix 0) 54 a0 (ix 0) (ix (rI (wI μ 11 a0 0 (rI μ 11 a1 0)) 11 a0 0)))
          else none
        else none
      else none
    else none
  else none
theorem tX10_copyFrom (a0 : Nat) (a1 : Nat) (μ : sM) : sMt yX10_copyFrom cX10_copyFrom 2 none 1 [vr 11 a0, vr 11 a1] μ (oV (X10_copyFrom a0 a1 μ)) := by
  refine sMt_of (own := 10) (bl := false) (by decide +kernel) rfl (Nat.le_of_ble_eq_true rfl) (fun r ρ h => ?_) ?_
  · obtain ⟨q, -, hq⟩ := Option.map_eq_some_iff.mp h
    cases hq
    exact rfl
  · unfold X10_copyFrom
    show sOk 10 cX10_copyFrom 2 1 false 0 [(0, vr 11 a0), (1, vr 11 a1)] [] μ _
    refine sBk (lo' := [(0, vr 11 a0), (1, vr 11 a1)]) (st' := [vi (rI (wI μ 11 a0 0 (rI μ 11 a1 0)) 11 a0 0), vi 0, vr 50 a0, vi 0, vr 50 a1]) (μ' := wI μ 11 a0 0 (rI μ 11 a1 0)) (pc' := 22) [(.aload_n 0, 0, 0, 0, 0), (.aload_n 1, 0, 0, 0, 0), (.getfield 28, 10, 0, 0, 0), (.putfield 28, 10, 0, 0, 0), (.aload_n 1, 0, 0, 0, 0), (.getfield 9, 10, 1, 0, 0), (.iconst 0, 0, 0, 0, 0), (.aload_n 0, 0, 0, 0, 0), (.getfield 9, 10, 1, 0, 0), (.iconst 0, 0, 0, 0, 0), (.aload_n 0, 0, 0, 0, 0), (.getfield 28, 10, 0, 0, 0)] (by decide +kernel) rfl rfl ?_
    refine sCk oV rfl (fun h => ?_)
    refine sCpL (q0 := (50, a1)) (q1 := (50, a0)) (idx := 32) (p1 := 944) (by decide +kernel) rfl rfl (by decide) h ?_
    refine sBk (lo' := [(0, vr 11 a0), (1, vr 11 a1)]) (st' := [vi (rI (wI μ 11 a0 0 (rI μ 11 a1 0)) 11 a0 0), vi 0, vr 51 a0, vi 0, vr 51 a1]) (μ' := cL (wI μ 11 a0 0 (rI μ 11 a1 0)) 50 a1 (ix 0) 50 a0 (ix 0) (ix (rI (wI μ 11 a0 0 (rI μ 11 a1 0)) 11 a0 0))) (pc' := 39) [(.aload_n 1, 0, 0, 0, 0), (.getfield 15, 10, 2, 0, 0), (.iconst 0, 0, 0, 0, 0), (.aload_n 0, 0, 0, 0, 0), (.getfield 15, 10, 2, 0, 0), (.iconst 0, 0, 0, 0, 0), (.aload_n 0, 0, 0, 0, 0), (.getfield 28, 10, 0, 0, 0)] (by decide +kernel) rfl rfl ?_
    refine sCk oV rfl (fun h => ?_)
    refine sCpI (q0 := (51, a1)) (q1 := (51, a0)) (idx := 32) (p1 := 944) (by decide +kernel) rfl rfl (by decide) h ?_
    refine sBk (lo' := [(0, vr 11 a0), (1, vr 11 a1)]) (st' := [vi (rI (wI μ 11 a0 0 (rI μ 11 a1 0)) 11 a0 0), vi 0, vr 52 a0, vi 0, vr 52 a1]) (μ' := cI (cL (wI μ 11 a0 0 (rI μ 11 a1 0)) 50 a1 (ix 0) 50 a0 (ix 0) (ix (rI (wI μ 11 a0 0 (rI μ 11 a1 0)) 11 a0 0))) 51 a1 (ix 0) 51 a0 (ix 0) (ix (rI (wI μ 11 a0 0 (rI μ 11 a1 0)) 11 a0 0))) (pc' := 56) [(.aload_n 1, 0, 0, 0, 0), (.getfield 19, 10, 3, 0, 0), (.iconst 0, 0, 0, 0, 0), (.aload_n 0, 0, 0, 0, 0), (.getfield 19, 10, 3, 0, 0), (.iconst 0, 0, 0, 0, 0), (.aload_n 0, 0, 0, 0, 0), (.getfield 28, 10, 0, 0, 0)] (by decide +kernel) rfl rfl ?_
    refine sCk oV rfl (fun h => ?_)
    refine sCpI (q0 := (52, a1)) (q1 := (52, a0)) (idx := 32) (p1 := 944) (by decide +kernel) rfl rfl (by decide) h ?_
    refine sBk (lo' := [(0, vr 11 a0), (1, vr 11 a1)]) (st' := [vi (rI (wI μ 11 a0 0 (rI μ 11 a1 0)) 11 a0 0), vi 0, vr 53 a0, vi 0, vr 53 a1]) (μ' := cI (cI (cL (wI μ 11 a0 0 (rI μ 11 a1 0)) 50 a1 (ix 0) 50 a0 (ix 0) (ix (rI (wI μ 11 a0 0 (rI μ 11 a1 0)) 11 a0 0))) 51 a1 (ix 0) 51 a0 (ix 0) (ix (rI (wI μ 11 a0 0 (rI μ 11 a1 0)) 11 a0 0))) 52 a1 (ix 0) 52 a0 (ix 0) (ix (rI (wI μ 11 a0 0 (rI μ 11 a1 0)) 11 a0 0))) (pc' := 73) [(.aload_n 1, 0, 0, 0, 0), (.getfield 22, 10, 4, 0, 0), (.iconst 0, 0, 0, 0, 0), (.aload_n 0, 0, 0, 0, 0), (.getfield 22, 10, 4, 0, 0), (.iconst 0, 0, 0, 0, 0), (.aload_n 0, 0, 0, 0, 0), (.getfield 28, 10, 0, 0, 0)] (by decide +kernel) rfl rfl ?_
    refine sCk oV rfl (fun h => ?_)
    refine sCpI (q0 := (53, a1)) (q1 := (53, a0)) (idx := 32) (p1 := 944) (by decide +kernel) rfl rfl (by decide) h ?_
    refine sBk (lo' := [(0, vr 11 a0), (1, vr 11 a1)]) (st' := [vi (rI (wI μ 11 a0 0 (rI μ 11 a1 0)) 11 a0 0), vi 0, vr 54 a0, vi 0, vr 54 a1]) (μ' := cI (cI (cI (cL (wI μ 11 a0 0 (rI μ 11 a1 0)) 50 a1 (ix 0) 50 a0 (ix 0) (ix (rI (wI μ 11 a0 0 (rI μ 11 a1 0)) 11 a0 0))) 51 a1 (ix 0) 51 a0 (ix 0) (ix (rI (wI μ 11 a0 0 (rI μ 11 a1 0)) 11 a0 0))) 52 a1 (ix 0) 52 a0 (ix 0) (ix (rI (wI μ 11 a0 0 (rI μ 11 a1 0)) 11 a0 0))) 53 a1 (ix 0) 53 a0 (ix 0) (ix (rI (wI μ 11 a0 0 (rI μ 11 a1 0)) 11 a0 0))) (pc' := 90) [(.aload_n 1, 0, 0, 0, 0), (.getfield 25, 10, 5, 0, 0), (.iconst 0, 0, 0, 0, 0), (.aload_n 0, 0, 0, 0, 0), (.getfield 25, 10, 5, 0, 0), (.iconst 0, 0, 0, 0, 0), (.aload_n 0, 0, 0, 0, 0), (.getfield 28, 10, 0, 0, 0)] (by decide +kernel) rfl rfl ?_
    refine sCk oV rfl (fun h => ?_)
    refine sCpI (q0 := (54, a1)) (q1 := (54, a0)) (idx := 32) (p1 := 944) (by decide +kernel) rfl rfl (by decide) h ?_
    exact sRv (by decide +kernel)
/-! ClockRiver$Winders.allHad -/
def X10_allHad_L4 : Nat → Nat → Int32 → Int32 → sM → Option (Int32 × sM)
  | 0, _, _, _, _ => none
  | n + 1, v0, v1, v2, μ =>
    if (rI μ 11 v0 0) ≤ v2 then
      some (v1, μ)
    else
      if inb v2 6 = true then
        X10_allHad_L4 n v0 (v1 + (rI μ 54 v0 (ix v2))) (v2 + 1) μ
      else none
theorem X10_allHad_L4_ok : ∀ (n : Nat) (v0 : Nat) (v1 : Int32) (v2 : Int32) (μ : sM), sOk 10 cX10_allHad 3 1 false 4 [(0, vr 11 v0), (1, vi v1), (2, vi v2)] [] μ (oI (X10_allHad_L4 n v0 v1 v2 μ)) := by
  intro n
  induction n with
  | zero =>
    intros
    exact sNo
  | succ n ih =>
    intro v0 v1 v2 μ
    unfold X10_allHad_L4
    refine sBk (lo' := [(0, vr 11 v0), (1, vi v1), (2, vi v2)]) (st' := [vi (rI μ 11 v0 0), vi v2]) (μ' := μ) (pc' := 9) [(.iload_n 2, 0, 0, 0, 0), (.aload_n 0, 0, 0, 0, 0), (.getfield 28, 10, 0, 0, 0)] (by decide +kernel) rfl rfl ?_
    refine sIc_ge oI (off := 18) (tgt := 27) (by decide +kernel) (by decide) (fun _ => ?_) (fun _ => ?_)
    · refine sBk (lo' := [(0, vr 11 v0), (1, vi v1), (2, vi v2)]) (st' := [vi v1]) (μ' := μ) (pc' := 28) [(.iload_n 1, 0, 0, 0, 0)] (by decide +kernel) rfl rfl ?_
      exact sRi (by decide +kernel) (fun h => by cases h)
    · refine sBk (lo' := [(0, vr 11 v0), (1, vi v1), (2, vi v2)]) (st' := [vi v2, vr 54 v0, vi v1]) (μ' := μ) (pc' := 18) [(.iload_n 1, 0, 0, 0, 0), (.aload_n 0, 0, 0, 0, 0), (.getfield 25, 10, 5, 0, 0), (.iload_n 2, 0, 0, 0, 0)] (by decide +kernel) rfl rfl ?_
      refine sS_ial oI rfl (n := 6) (j := (ix v2)) (by decide +kernel) rfl rfl rfl (fun _ => ?_)
      refine sBk (lo' := [(2, vi (v2 + 1)), (1, vi (v1 + (rI μ 54 v0 (ix v2)))), (0, vr 11 v0)]) (st' := []) (μ' := μ) (pc' := 24) [(.iadd, 0, 0, 0, 0), (.istore_n 1, 0, 0, 0, 0), (.iinc 2 1, 0, 0, 1, 0)] (by decide +kernel) rfl rfl ?_
      refine sGt (off := (-20)) (tgt := 4) (by decide +kernel) (by decide) ?_
      refine sWk (lo' := [(0, vr 11 v0), (1, vi (v1 + (rI μ 54 v0 (ix v2)))), (2, vi (v2 + 1))]) [2, 1, 0] rfl ?_
      exact ih v0 (v1 + (rI μ 54 v0 (ix v2))) (v2 + 1) μ
def X10_allHad (a0 : Nat) (μ : sM) : Option (Int32 × sM) :=
  X10_allHad_L4 fuN a0 0 0 μ
theorem tX10_allHad (a0 : Nat) (μ : sM) : sMt yX10_allHad cX10_allHad 3 (some .int) 1 [vr 11 a0] μ (oI (X10_allHad a0 μ)) := by
  refine sMt_of (own := 10) (bl := false) (by decide +kernel) rfl (Nat.le_of_ble_eq_true rfl) (fun r ρ h => ?_) ?_
  · obtain ⟨q, -, hq⟩ := Option.map_eq_some_iff.mp h
    cases hq
    exact Or.inl rfl
  · unfold X10_allHad
    show sOk 10 cX10_allHad 3 1 false 0 [(0, vr 11 a0)] [] μ _
    refine sBk (lo' := [(2, vi 0), (1, vi 0), (0, vr 11 a0)]) (st' := []) (μ' := μ) (pc' := 4) [(.iconst 0, 0, 0, 0, 0), (.istore_n 1, 0, 0, 0, 0), (.iconst 0, 0, 0, 0, 0), (.istore_n 2, 0, 0, 0, 0)] (by decide +kernel) rfl rfl ?_
    refine sWk (lo' := [(0, vr 11 a0), (1, vi 0), (2, vi 0)]) [2, 1, 0] rfl ?_
    exact X10_allHad_L4_ok fuN a0 0 0 μ
/-! ClockRiver$Winders.pay -/
def X10_pay (a0 : Nat) (a1 : Int32) (μ : sM) : Option sM :=
  if inb a1 6 = true then
    if inb a1 6 = true then
      if inb a1 6 = true then
        if inb a1 6 = true then
          if inb a1 6 = true then
            some (wI (wI μ 53 a0 (ix a1) ((rI μ 53 a0 (ix a1)) + 1)) 54 a0 (ix a1) ((rI μ 54 a0 (ix a1)) + (rI μ 52 a0 (ix a1))))
          else none
        else none
      else none
    else none
  else none
theorem tX10_pay (a0 : Nat) (a1 : Int32) (μ : sM) : sMt yX10_pay cX10_pay 2 none 1 [vr 11 a0, vi a1] μ (oV (X10_pay a0 a1 μ)) := by
  refine sMt_of (own := 10) (bl := false) (by decide +kernel) rfl (Nat.le_of_ble_eq_true rfl) (fun r ρ h => ?_) ?_
  · obtain ⟨q, -, hq⟩ := Option.map_eq_some_iff.mp h
    cases hq
    exact rfl
  · unfold X10_pay
    show sOk 10 cX10_pay 2 1 false 0 [(0, vr 11 a0), (1, vi a1)] [] μ _
    refine sBk (lo' := [(0, vr 11 a0), (1, vi a1)]) (st' := [vi a1, vr 53 a0, vi a1, vr 53 a0]) (μ' := μ) (pc' := 6) [(.aload_n 0, 0, 0, 0, 0), (.getfield 22, 10, 4, 0, 0), (.iload_n 1, 0, 0, 0, 0), (.dup2, 0, 0, 0, 0)] (by decide +kernel) rfl rfl ?_
    refine sS_ial oV rfl (n := 6) (j := (ix a1)) (by decide +kernel) rfl rfl rfl (fun _ => ?_)
    refine sBk (lo' := [(0, vr 11 a0), (1, vi a1)]) (st' := [vi ((rI μ 53 a0 (ix a1)) + 1), vi a1, vr 53 a0]) (μ' := μ) (pc' := 9) [(.iconst 1, 0, 0, 1, 0), (.iadd, 0, 0, 0, 0)] (by decide +kernel) rfl rfl ?_
    refine sS_ias oV rfl (n := 6) (j := (ix a1)) (by decide +kernel) rfl rfl rfl (fun _ => ?_)
    refine sBk (lo' := [(0, vr 11 a0), (1, vi a1)]) (st' := [vi a1, vr 54 a0, vi a1, vr 54 a0]) (μ' := wI μ 53 a0 (ix a1) ((rI μ 53 a0 (ix a1)) + 1)) (pc' := 16) [(.aload_n 0, 0, 0, 0, 0), (.getfield 25, 10, 5, 0, 0), (.iload_n 1, 0, 0, 0, 0), (.dup2, 0, 0, 0, 0)] (by decide +kernel) rfl rfl ?_
    refine sS_ial oV rfl (n := 6) (j := (ix a1)) (by decide +kernel) rfl rfl rfl (fun _ => ?_)
    refine sBk (lo' := [(0, vr 11 a0), (1, vi a1)]) (st' := [vi a1, vr 52 a0, vi (rI μ 54 a0 (ix a1)), vi a1, vr 54 a0]) (μ' := wI μ 53 a0 (ix a1) ((rI μ 53 a0 (ix a1)) + 1)) (pc' := 22) [(.aload_n 0, 0, 0, 0, 0), (.getfield 19, 10, 3, 0, 0), (.iload_n 1, 0, 0, 0, 0)] (by decide +kernel) rfl rfl ?_
    refine sS_ial oV rfl (n := 6) (j := (ix a1)) (by decide +kernel) rfl rfl rfl (fun _ => ?_)
    refine sBk (lo' := [(0, vr 11 a0), (1, vi a1)]) (st' := [vi ((rI μ 54 a0 (ix a1)) + (rI μ 52 a0 (ix a1))), vi a1, vr 54 a0]) (μ' := wI μ 53 a0 (ix a1) ((rI μ 53 a0 (ix a1)) + 1)) (pc' := 24) [(.iadd, 0, 0, 0, 0)] (by decide +kernel) rfl rfl ?_
    refine sS_ias oV rfl (n := 6) (j := (ix a1)) (by decide +kernel) rfl rfl rfl (fun _ => ?_)
    exact sRv (by decide +kernel)
/-! ClockRiver$Winders.sets -/
def X10_sets (a0 : Nat) (μ : sM) : Option (Int32 × sM) :=
  some ((isl 1 (rI μ 11 a0 0)), μ)
theorem tX10_sets (a0 : Nat) (μ : sM) : sMt yX10_sets cX10_sets 1 (some .int) 1 [vr 11 a0] μ (oI (X10_sets a0 μ)) := by
  refine sMt_of (own := 10) (bl := false) (by decide +kernel) rfl (Nat.le_of_ble_eq_true rfl) (fun r ρ h => ?_) ?_
  · obtain ⟨q, -, hq⟩ := Option.map_eq_some_iff.mp h
    cases hq
    exact Or.inl rfl
  · unfold X10_sets
    show sOk 10 cX10_sets 1 1 false 0 [(0, vr 11 a0)] [] μ _
    refine sBk (lo' := [(0, vr 11 a0)]) (st' := [vi (isl 1 (rI μ 11 a0 0))]) (μ' := μ) (pc' := 6) [(.iconst 1, 0, 0, 1, 0), (.aload_n 0, 0, 0, 0, 0), (.getfield 28, 10, 0, 0, 0), (.ishl, 0, 0, 0, 0)] (by decide +kernel) rfl rfl ?_
    exact sRi (by decide +kernel) (fun h => by cases h)
/-! ClockRiver$Winders.canWind -/
def X10_canWind_J37 (k6 : Nat → Int32 → Int32 → Int32 → Int32 → sM → Option (Int32 × sM)) (v0 : Nat) (v1 : Int32) (v3 : Int32) (v4 : Int32) (v5 : Int32) (μ : sM) : Option (Int32 × sM) :=
  k6 v0 v1 v3 v4 (v5 + 1) μ
theorem X10_canWind_J37_ok {k6 : Nat → Int32 → Int32 → Int32 → Int32 → sM → Option (Int32 × sM)} (hk6 : ∀ (v0 : Nat) (v1 : Int32) (v3 : Int32) (v4 : Int32) (v5 : Int32) (μ : sM), sOk 10 cX10_canWind 6 1 true 6 [(0, vr 11 v0), (1, vi v1), (3, vi v3), (4, vi v4), (5, vi v5)] [] μ (oI (k6 v0 v1 v3 v4 v5 μ))) (v0 : Nat) (v1 : Int32) (v3 : Int32) (v4 : Int32) (v5 : Int32) (μ : sM) : sOk 10 cX10_canWind 6 1 true 37 [(0, vr 11 v0), (1, vi v1), (3, vi v3), (4, vi v4), (5, vi v5)] [] μ (oI (X10_canWind_J37 k6 v0 v1 v3 v4 v5 μ)) := by
  unfold X10_canWind_J37
  refine sBk (lo' := [(5, vi (v5 + 1)), (0, vr 11 v0), (1, vi v1), (3, vi v3), (4, vi v4)]) (st' := []) (μ' := μ) (pc' := 40) [(.iinc 5 1, 0, 0, 1, 0)] (by decide +kernel) rfl rfl ?_
  refine sGt (off := (-34)) (tgt := 6) (by decide +kernel) (by decide) ?_
  refine sWk (lo' := [(0, vr 11 v0), (1, vi v1), (3, vi v3), (4, vi v4), (5, vi (v5 + 1))]) [1, 2, 3, 4, 0] rfl ?_
  exact hk6 v0 v1 v3 v4 (v5 + 1) μ
def X10_canWind_L6 : Nat → Nat → Int32 → Int32 → Int32 → Int32 → sM → Option (Int32 × sM)
  | 0, _, _, _, _, _, _ => none
  | n + 1, v0, v1, v3, v4, v5, μ =>
    if (rI μ 11 v0 0) ≤ v5 then
      if (imn 60 v4) = v3 then
        some (1, μ)
      else
        some (0, μ)
    else
      if ((isr v1 v5) &&& 1) = 1 then
        if inb v5 6 = true then
          X10_canWind_J37 (X10_canWind_L6 n) v0 v1 v3 (v4 + (rI μ 51 v0 (ix v5))) v5 μ
        else none
      else
        X10_canWind_J37 (X10_canWind_L6 n) v0 v1 v3 v4 v5 μ
theorem X10_canWind_L6_ok : ∀ (n : Nat) (v0 : Nat) (v1 : Int32) (v3 : Int32) (v4 : Int32) (v5 : Int32) (μ : sM), sOk 10 cX10_canWind 6 1 true 6 [(0, vr 11 v0), (1, vi v1), (3, vi v3), (4, vi v4), (5, vi v5)] [] μ (oI (X10_canWind_L6 n v0 v1 v3 v4 v5 μ)) := by
  intro n
  induction n with
  | zero =>
    intros
    exact sNo
  | succ n ih =>
    intro v0 v1 v3 v4 v5 μ
    unfold X10_canWind_L6
    refine sBk (lo' := [(0, vr 11 v0), (1, vi v1), (3, vi v3), (4, vi v4), (5, vi v5)]) (st' := [vi (rI μ 11 v0 0), vi v5]) (μ' := μ) (pc' := 12) [(.iload 5, 0, 0, 0, 0), (.aload_n 0, 0, 0, 0, 0), (.getfield 28, 10, 0, 0, 0)] (by decide +kernel) rfl rfl ?_
    refine sIc_ge oI (off := 31) (tgt := 43) (by decide +kernel) (by decide) (fun _ => ?_) (fun _ => ?_)
    · refine sBk (lo' := [(0, vr 11 v0), (1, vi v1), (3, vi v3), (4, vi v4), (5, vi v5)]) (st' := [vi v4, vi 60]) (μ' := μ) (pc' := 47) [(.bipush 60, 0, 0, 60, 0), (.iload 4, 0, 0, 0, 0)] (by decide +kernel) rfl rfl ?_
      refine sMin (idx := 38) (p1 := 1302) (by decide +kernel) (by decide) (Nat.le_of_ble_eq_true rfl) ?_
      refine sBk (lo' := [(0, vr 11 v0), (1, vi v1), (3, vi v3), (4, vi v4), (5, vi v5)]) (st' := [vi v3, vi (imn 60 v4)]) (μ' := μ) (pc' := 51) [(.iload_n 3, 0, 0, 0, 0)] (by decide +kernel) rfl rfl ?_
      refine sIc_ne oI (off := 7) (tgt := 58) (by decide +kernel) (by decide) (fun _ => ?_) (fun _ => ?_)
      · refine sBk (lo' := [(0, vr 11 v0), (1, vi v1), (3, vi v3), (4, vi v4), (5, vi v5)]) (st' := [vi 0]) (μ' := μ) (pc' := 59) [(.iconst 0, 0, 0, 0, 0)] (by decide +kernel) rfl rfl ?_
        exact sRi (by decide +kernel) (fun _ => Or.inl rfl)
      · refine sBk (lo' := [(0, vr 11 v0), (1, vi v1), (3, vi v3), (4, vi v4), (5, vi v5)]) (st' := [vi 1]) (μ' := μ) (pc' := 55) [(.iconst 1, 0, 0, 1, 0)] (by decide +kernel) rfl rfl ?_
        refine sGt (off := 4) (tgt := 59) (by decide +kernel) (by decide) ?_
        exact sRi (by decide +kernel) (fun _ => Or.inr rfl)
    · refine sBk (lo' := [(0, vr 11 v0), (1, vi v1), (3, vi v3), (4, vi v4), (5, vi v5)]) (st' := [vi 1, vi ((isr v1 v5) &&& 1)]) (μ' := μ) (pc' := 22) [(.iload_n 1, 0, 0, 0, 0), (.iload 5, 0, 0, 0, 0), (.ishr, 0, 0, 0, 0), (.iconst 1, 0, 0, 1, 0), (.iand, 0, 0, 0, 0), (.iconst 1, 0, 0, 1, 0)] (by decide +kernel) rfl rfl ?_
      refine sIc_ne oI (off := 15) (tgt := 37) (by decide +kernel) (by decide) (fun _ => ?_) (fun _ => ?_)
      · exact X10_canWind_J37_ok ih v0 v1 v3 v4 v5 μ
      · refine sBk (lo' := [(0, vr 11 v0), (1, vi v1), (3, vi v3), (4, vi v4), (5, vi v5)]) (st' := [vi v5, vr 51 v0, vi v4]) (μ' := μ) (pc' := 33) [(.iload 4, 0, 0, 0, 0), (.aload_n 0, 0, 0, 0, 0), (.getfield 15, 10, 2, 0, 0), (.iload 5, 0, 0, 0, 0)] (by decide +kernel) rfl rfl ?_
        refine sS_ial oI rfl (n := 6) (j := (ix v5)) (by decide +kernel) rfl rfl rfl (fun _ => ?_)
        refine sBk (lo' := [(4, vi (v4 + (rI μ 51 v0 (ix v5)))), (0, vr 11 v0), (1, vi v1), (3, vi v3), (5, vi v5)]) (st' := []) (μ' := μ) (pc' := 37) [(.iadd, 0, 0, 0, 0), (.istore 4, 0, 0, 0, 0)] (by decide +kernel) rfl rfl ?_
        refine sWk (lo' := [(0, vr 11 v0), (1, vi v1), (3, vi v3), (4, vi (v4 + (rI μ 51 v0 (ix v5)))), (5, vi v5)]) [1, 2, 3, 0, 4] rfl ?_
        exact X10_canWind_J37_ok ih v0 v1 v3 (v4 + (rI μ 51 v0 (ix v5))) v5 μ
def X10_canWind (a0 : Nat) (a1 : Int32) (a2 : Int32) (a3 : Int32) (μ : sM) : Option (Int32 × sM) :=
  X10_canWind_L6 fuN a0 a1 a3 a2 0 μ
theorem tX10_canWind (a0 : Nat) (a1 : Int32) (a2 : Int32) (a3 : Int32) (μ : sM) : sMt yX10_canWind cX10_canWind 6 (some .boolean) 1 [vr 11 a0, vi a1, vi a2, vi a3] μ (oI (X10_canWind a0 a1 a2 a3 μ)) := by
  refine sMt_of (own := 10) (bl := true) (by decide +kernel) rfl (Nat.le_of_ble_eq_true rfl) (fun r ρ h => ?_) ?_
  · obtain ⟨q, -, hq⟩ := Option.map_eq_some_iff.mp h
    cases hq
    exact Or.inr ⟨rfl, rfl⟩
  · unfold X10_canWind
    show sOk 10 cX10_canWind 6 1 true 0 [(0, vr 11 a0), (1, vi a1), (2, vi a2), (3, vi a3)] [] μ _
    refine sBk (lo' := [(5, vi 0), (4, vi a2), (0, vr 11 a0), (1, vi a1), (2, vi a2), (3, vi a3)]) (st' := []) (μ' := μ) (pc' := 6) [(.iload_n 2, 0, 0, 0, 0), (.istore 4, 0, 0, 0, 0), (.iconst 0, 0, 0, 0, 0), (.istore 5, 0, 0, 0, 0)] (by decide +kernel) rfl rfl ?_
    refine sWk (lo' := [(0, vr 11 a0), (1, vi a1), (3, vi a3), (4, vi a2), (5, vi 0)]) [2, 3, 5, 1, 0] rfl ?_
    exact X10_canWind_L6_ok fuN a0 a1 a3 a2 0 μ
/-! ClockRiver$Winders.wagesOf -/
def X10_wagesOf_J30 (k4 : Nat → Int32 → Int32 → Int32 → sM → Option (Int32 × sM)) (v0 : Nat) (v1 : Int32) (v2 : Int32) (v3 : Int32) (μ : sM) : Option (Int32 × sM) :=
  k4 v0 v1 v2 (v3 + 1) μ
theorem X10_wagesOf_J30_ok {k4 : Nat → Int32 → Int32 → Int32 → sM → Option (Int32 × sM)} (hk4 : ∀ (v0 : Nat) (v1 : Int32) (v2 : Int32) (v3 : Int32) (μ : sM), sOk 10 cX10_wagesOf 4 1 false 4 [(0, vr 11 v0), (1, vi v1), (2, vi v2), (3, vi v3)] [] μ (oI (k4 v0 v1 v2 v3 μ))) (v0 : Nat) (v1 : Int32) (v2 : Int32) (v3 : Int32) (μ : sM) : sOk 10 cX10_wagesOf 4 1 false 30 [(0, vr 11 v0), (1, vi v1), (2, vi v2), (3, vi v3)] [] μ (oI (X10_wagesOf_J30 k4 v0 v1 v2 v3 μ)) := by
  unfold X10_wagesOf_J30
  refine sBk (lo' := [(3, vi (v3 + 1)), (0, vr 11 v0), (1, vi v1), (2, vi v2)]) (st' := []) (μ' := μ) (pc' := 33) [(.iinc 3 1, 0, 0, 1, 0)] (by decide +kernel) rfl rfl ?_
  refine sGt (off := (-29)) (tgt := 4) (by decide +kernel) (by decide) ?_
  refine sWk (lo' := [(0, vr 11 v0), (1, vi v1), (2, vi v2), (3, vi (v3 + 1))]) [1, 2, 3, 0] rfl ?_
  exact hk4 v0 v1 v2 (v3 + 1) μ
def X10_wagesOf_L4 : Nat → Nat → Int32 → Int32 → Int32 → sM → Option (Int32 × sM)
  | 0, _, _, _, _, _ => none
  | n + 1, v0, v1, v2, v3, μ =>
    if (rI μ 11 v0 0) ≤ v3 then
      some (v2, μ)
    else
      if ((isr v1 v3) &&& 1) = 1 then
        if inb v3 6 = true then
          X10_wagesOf_J30 (X10_wagesOf_L4 n) v0 v1 (v2 + (rI μ 52 v0 (ix v3))) v3 μ
        else none
      else
        X10_wagesOf_J30 (X10_wagesOf_L4 n) v0 v1 v2 v3 μ
theorem X10_wagesOf_L4_ok : ∀ (n : Nat) (v0 : Nat) (v1 : Int32) (v2 : Int32) (v3 : Int32) (μ : sM), sOk 10 cX10_wagesOf 4 1 false 4 [(0, vr 11 v0), (1, vi v1), (2, vi v2), (3, vi v3)] [] μ (oI (X10_wagesOf_L4 n v0 v1 v2 v3 μ)) := by
  intro n
  induction n with
  | zero =>
    intros
    exact sNo
  | succ n ih =>
    intro v0 v1 v2 v3 μ
    unfold X10_wagesOf_L4
    refine sBk (lo' := [(0, vr 11 v0), (1, vi v1), (2, vi v2), (3, vi v3)]) (st' := [vi (rI μ 11 v0 0), vi v3]) (μ' := μ) (pc' := 9) [(.iload_n 3, 0, 0, 0, 0), (.aload_n 0, 0, 0, 0, 0), (.getfield 28, 10, 0, 0, 0)] (by decide +kernel) rfl rfl ?_
    refine sIc_ge oI (off := 27) (tgt := 36) (by decide +kernel) (by decide) (fun _ => ?_) (fun _ => ?_)
    · refine sBk (lo' := [(0, vr 11 v0), (1, vi v1), (2, vi v2), (3, vi v3)]) (st' := [vi v2]) (μ' := μ) (pc' := 37) [(.iload_n 2, 0, 0, 0, 0)] (by decide +kernel) rfl rfl ?_
      exact sRi (by decide +kernel) (fun h => by cases h)
    · refine sBk (lo' := [(0, vr 11 v0), (1, vi v1), (2, vi v2), (3, vi v3)]) (st' := [vi 1, vi ((isr v1 v3) &&& 1)]) (μ' := μ) (pc' := 18) [(.iload_n 1, 0, 0, 0, 0), (.iload_n 3, 0, 0, 0, 0), (.ishr, 0, 0, 0, 0), (.iconst 1, 0, 0, 1, 0), (.iand, 0, 0, 0, 0), (.iconst 1, 0, 0, 1, 0)] (by decide +kernel) rfl rfl ?_
      refine sIc_ne oI (off := 12) (tgt := 30) (by decide +kernel) (by decide) (fun _ => ?_) (fun _ => ?_)
      · exact X10_wagesOf_J30_ok ih v0 v1 v2 v3 μ
      · refine sBk (lo' := [(0, vr 11 v0), (1, vi v1), (2, vi v2), (3, vi v3)]) (st' := [vi v3, vr 52 v0, vi v2]) (μ' := μ) (pc' := 27) [(.iload_n 2, 0, 0, 0, 0), (.aload_n 0, 0, 0, 0, 0), (.getfield 19, 10, 3, 0, 0), (.iload_n 3, 0, 0, 0, 0)] (by decide +kernel) rfl rfl ?_
        refine sS_ial oI rfl (n := 6) (j := (ix v3)) (by decide +kernel) rfl rfl rfl (fun _ => ?_)
        refine sBk (lo' := [(2, vi (v2 + (rI μ 52 v0 (ix v3)))), (0, vr 11 v0), (1, vi v1), (3, vi v3)]) (st' := []) (μ' := μ) (pc' := 30) [(.iadd, 0, 0, 0, 0), (.istore_n 2, 0, 0, 0, 0)] (by decide +kernel) rfl rfl ?_
        refine sWk (lo' := [(0, vr 11 v0), (1, vi v1), (2, vi (v2 + (rI μ 52 v0 (ix v3)))), (3, vi v3)]) [1, 2, 0, 3] rfl ?_
        exact X10_wagesOf_J30_ok ih v0 v1 (v2 + (rI μ 52 v0 (ix v3))) v3 μ
def X10_wagesOf (a0 : Nat) (a1 : Int32) (μ : sM) : Option (Int32 × sM) :=
  X10_wagesOf_L4 fuN a0 a1 0 0 μ
theorem tX10_wagesOf (a0 : Nat) (a1 : Int32) (μ : sM) : sMt yX10_wagesOf cX10_wagesOf 4 (some .int) 1 [vr 11 a0, vi a1] μ (oI (X10_wagesOf a0 a1 μ)) := by
  refine sMt_of (own := 10) (bl := false) (by decide +kernel) rfl (Nat.le_of_ble_eq_true rfl) (fun r ρ h => ?_) ?_
  · obtain ⟨q, -, hq⟩ := Option.map_eq_some_iff.mp h
    cases hq
    exact Or.inl rfl
  · unfold X10_wagesOf
    show sOk 10 cX10_wagesOf 4 1 false 0 [(0, vr 11 a0), (1, vi a1)] [] μ _
    refine sBk (lo' := [(3, vi 0), (2, vi 0), (0, vr 11 a0), (1, vi a1)]) (st' := []) (μ' := μ) (pc' := 4) [(.iconst 0, 0, 0, 0, 0), (.istore_n 2, 0, 0, 0, 0), (.iconst 0, 0, 0, 0, 0), (.istore_n 3, 0, 0, 0, 0)] (by decide +kernel) rfl rfl ?_
    refine sWk (lo' := [(0, vr 11 a0), (1, vi a1), (2, vi 0), (3, vi 0)]) [2, 3, 1, 0] rfl ?_
    exact X10_wagesOf_L4_ok fuN a0 a1 0 0 μ
