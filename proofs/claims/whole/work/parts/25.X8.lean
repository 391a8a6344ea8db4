/-! ClockRiver$Weeks.forget -/
def X8_forget (a0 : Nat) (μ : sM) : Option sM :=
  some (wI (wI (wI μ 9 a0 0 0) 9 a0 1 0) 9 a0 2 0)
theorem tX8_forget (a0 : Nat) (μ : sM) : sMt yX8_forget cX8_forget 1 none 1 [vr 9 a0] μ (oV (X8_forget a0 μ)) := by
  refine sMt_of (own := 8) (bl := false) (by decide +kernel) rfl (Nat.le_of_ble_eq_true rfl) (fun r ρ h => ?_) ?_
  · obtain ⟨q, -, hq⟩ := Option.map_eq_some_iff.mp h
    cases hq
    exact rfl
  · unfold X8_forget
    show sOk 8 cX8_forget 1 1 false 0 [(0, vr 9 a0)] [] μ _
    refine sBk (lo' := [(0, vr 9 a0)]) (st' := []) (μ' := wI (wI (wI μ 9 a0 0 0) 9 a0 1 0) 9 a0 2 0) (pc' := 15) [(.aload_n 0, 0, 0, 0, 0), (.iconst 0, 0, 0, 0, 0), (.putfield 30, 8, 0, 0, 0), (.aload_n 0, 0, 0, 0, 0), (.iconst 0, 0, 0, 0, 0), (.putfield 34, 8, 1, 0, 0), (.aload_n 0, 0, 0, 0, 0), (.iconst 0, 0, 0, 0, 0), (.putfield 38, 8, 2, 0, 0)] (by decide +kernel) rfl rfl ?_
    exact sRv (by decide +kernel)
/-! ClockRiver$Weeks.addRow -/
def X8_addRow (a0 : Nat) (a1 : Int32) (μ : sM) : Option (Int32 × sM) :=
  if inb (imn (rI μ 9 a0 2) 59) 60 = true then
    if inb (imn (rI μ 9 a0 2) 59) 60 = true then
      if inb (imn (rI μ 9 a0 2) 59) 60 = true then
        if inb (imn (rI μ 9 a0 2) 59) 60 = true then
          if inb (imn (rI μ 9 a0 2) 59) 60 = true then
            if inb (imn (rI μ 9 a0 2) 59) 60 = true then
              some ((imn (rI μ 9 a0 2) 59), wI (wI (wI (wI (wI (wI (wI μ 43 a0 (ix (imn (rI μ 9 a0 2) 59)) a1) 44 a0 (ix (imn (rI μ 9 a0 2) 59)) (-1)) 45 a0 (ix (imn (rI μ 9 a0 2) 59)) 0) 46 a0 (ix (imn (rI μ 9 a0 2) 59)) (-1)) 47 a0 (ix (imn (rI μ 9 a0 2) 59)) (-1)) 48 a0 (ix (imn (rI μ 9 a0 2) 59)) (-1)) 9 a0 2 ((imn (rI μ 9 a0 2) 59) + 1))
            else none
          else none
        else none
      else none
    else none
  else none
theorem tX8_addRow (a0 : Nat) (a1 : Int32) (μ : sM) : sMt yX8_addRow cX8_addRow 3 (some .int) 1 [vr 9 a0, vi a1] μ (oI (X8_addRow a0 a1 μ)) := by
  refine sMt_of (own := 8) (bl := false) (by decide +kernel) rfl (Nat.le_of_ble_eq_true rfl) (fun r ρ h => ?_) ?_
  · obtain ⟨q, -, hq⟩ := Option.map_eq_some_iff.mp h
    cases hq
    exact Or.inl rfl
  · unfold X8_addRow
    show sOk 8 cX8_addRow 3 1 false 0 [(0, vr 9 a0), (1, vi a1)] [] μ _
    refine sBk (lo' := [(0, vr 9 a0), (1, vi a1)]) (st' := [vi 59, vi (rI μ 9 a0 2)]) (μ' := μ) (pc' := 6) [(.aload_n 0, 0, 0, 0, 0), (.getfield 38, 8, 2, 0, 0), (.bipush 59, 0, 0, 59, 0)] (by decide +kernel) rfl rfl ?_
    refine sMin (idx := 47) (p1 := 970) (by decide +kernel) (by decide) (Nat.le_of_ble_eq_true rfl) ?_
    refine sBk (lo' := [(2, vi (imn (rI μ 9 a0 2) 59)), (0, vr 9 a0), (1, vi a1)]) (st' := [vi a1, vi (imn (rI μ 9 a0 2) 59), vr 43 a0]) (μ' := μ) (pc' := 16) [(.istore_n 2, 0, 0, 0, 0), (.aload_n 0, 0, 0, 0, 0), (.getfield 11, 8, 3, 0, 0), (.iload_n 2, 0, 0, 0, 0), (.iload_n 1, 0, 0, 0, 0)] (by decide +kernel) rfl rfl ?_
    refine sS_ias oI rfl (n := 60) (j := (ix (imn (rI μ 9 a0 2) 59))) (by decide +kernel) rfl rfl rfl (fun _ => ?_)
    refine sBk (lo' := [(2, vi (imn (rI μ 9 a0 2) 59)), (0, vr 9 a0), (1, vi a1)]) (st' := [vi (-1), vi (imn (rI μ 9 a0 2) 59), vr 44 a0]) (μ' := wI μ 43 a0 (ix (imn (rI μ 9 a0 2) 59)) a1) (pc' := 23) [(.aload_n 0, 0, 0, 0, 0), (.getfield 15, 8, 4, 0, 0), (.iload_n 2, 0, 0, 0, 0), (.iconst (-1), 0, 0, (-1), 0)] (by decide +kernel) rfl rfl ?_
    refine sS_ias oI rfl (n := 60) (j := (ix (imn (rI μ 9 a0 2) 59))) (by decide +kernel) rfl rfl rfl (fun _ => ?_)
    refine sBk (lo' := [(2, vi (imn (rI μ 9 a0 2) 59)), (0, vr 9 a0), (1, vi a1)]) (st' := [vi 0, vi (imn (rI μ 9 a0 2) 59), vr 45 a0]) (μ' := wI (wI μ 43 a0 (ix (imn (rI μ 9 a0 2) 59)) a1) 44 a0 (ix (imn (rI μ 9 a0 2) 59)) (-1)) (pc' := 30) [(.aload_n 0, 0, 0, 0, 0), (.getfield 18, 8, 5, 0, 0), (.iload_n 2, 0, 0, 0, 0), (.iconst 0, 0, 0, 0, 0)] (by decide +kernel) rfl rfl ?_
    refine sS_ias oI rfl (n := 60) (j := (ix (imn (rI μ 9 a0 2) 59))) (by decide +kernel) rfl rfl rfl (fun _ => ?_)
    refine sBk (lo' := [(2, vi (imn (rI μ 9 a0 2) 59)), (0, vr 9 a0), (1, vi a1)]) (st' := [vi (-1), vi (imn (rI μ 9 a0 2) 59), vr 46 a0]) (μ' := wI (wI (wI μ 43 a0 (ix (imn (rI μ 9 a0 2) 59)) a1) 44 a0 (ix (imn (rI μ 9 a0 2) 59)) (-1)) 45 a0 (ix (imn (rI μ 9 a0 2) 59)) 0) (pc' := 37) [(.aload_n 0, 0, 0, 0, 0), (.getfield 21, 8, 6, 0, 0), (.iload_n 2, 0, 0, 0, 0), (.iconst (-1), 0, 0, (-1), 0)] (by decide +kernel) rfl rfl ?_
    refine sS_ias oI rfl (n := 60) (j := (ix (imn (rI μ 9 a0 2) 59))) (by decide +kernel) rfl rfl rfl (fun _ => ?_)
    refine sBk (lo' := [(2, vi (imn (rI μ 9 a0 2) 59)), (0, vr 9 a0), (1, vi a1)]) (st' := [vi (-1), vi (imn (rI μ 9 a0 2) 59), vr 47 a0]) (μ' := wI (wI (wI (wI μ 43 a0 (ix (imn (rI μ 9 a0 2) 59)) a1) 44 a0 (ix (imn (rI μ 9 a0 2) 59)) (-1)) 45 a0 (ix (imn (rI μ 9 a0 2) 59)) 0) 46 a0 (ix (imn (rI μ 9 a0 2) 59)) (-1)) (pc' := 44) [(.aload_n 0, 0, 0, 0, 0), (.getfield 24, 8, 7, 0, 0), (.iload_n 2, 0, 0, 0, 0), (.iconst (-1), 0, 0, (-1), 0)] (by decide +kernel) rfl rfl ?_
    refine sS_ias oI rfl (n := 60) (j := (ix (imn (rI μ 9 a0 2) 59))) (by decide +kernel) rfl rfl rfl (fun _ => ?_)
    refine sBk (lo' := [(2, vi (imn (rI μ 9 a0 2) 59)), (0, vr 9 a0), (1, vi a1)]) (st' := [vi (-1), vi (imn (rI μ 9 a0 2) 59), vr 48 a0]) (μ' := wI (wI (wI (wI (wI μ 43 a0 (ix (imn (rI μ 9 a0 2) 59)) a1) 44 a0 (ix (imn (rI μ 9 a0 2) 59)) (-1)) 45 a0 (ix (imn (rI μ 9 a0 2) 59)) 0) 46 a0 (ix (imn (rI μ 9 a0 2) 59)) (-1)) 47 a0 (ix (imn (rI μ 9 a0 2) 59)) (-1)) (pc' := 51) [(.aload_n 0, 0, 0, 0, 0), (.getfield 27, 8, 8, 0, 0), (.iload_n 2, 0, 0, 0, 0), (.iconst (-1), 0, 0, (-1), 0)] (by decide +kernel) rfl rfl ?_
    refine sS_ias oI rfl (n := 60) (j := (ix (imn (rI μ 9 a0 2) 59))) (by decide +kernel) rfl rfl rfl (fun _ => ?_)
    refine sBk (lo' := [(2, vi (imn (rI μ 9 a0 2) 59)), (0, vr 9 a0), (1, vi a1)]) (st' := [vi (imn (rI μ 9 a0 2) 59)]) (μ' := wI (wI (wI (wI (wI (wI (wI μ 43 a0 (ix (imn (rI μ 9 a0 2) 59)) a1) 44 a0 (ix (imn (rI μ 9 a0 2) 59)) (-1)) 45 a0 (ix (imn (rI μ 9 a0 2) 59)) 0) 46 a0 (ix (imn (rI μ 9 a0 2) 59)) (-1)) 47 a0 (ix (imn (rI μ 9 a0 2) 59)) (-1)) 48 a0 (ix (imn (rI μ 9 a0 2) 59)) (-1)) 9 a0 2 ((imn (rI μ 9 a0 2) 59) + 1)) (pc' := 60) [(.aload_n 0, 0, 0, 0, 0), (.iload_n 2, 0, 0, 0, 0), (.iconst 1, 0, 0, 1, 0), (.iadd, 0, 0, 0, 0), (.putfield 38, 8, 2, 0, 0), (.iload_n 2, 0, 0, 0, 0)] (by decide +kernel) rfl rfl ?_
    exact sRi (by decide +kernel) (fun h => by cases h)
/-! ClockRiver$Weeks.copyFrom -/
def X8_copyFrom (a0 : Nat) (a1 : Nat) (μ : sM) : Option sM :=
  if (rI μ 9 a1 0) = 0 ∨ (rI μ 9 a1 0) = 1 then
    if cpo 0 0 (rI (wI (wI (wI μ 9 a0 0 (rI μ 9 a1 0)) 9 a0 1 (rI μ 9 a1 1)) 9 a0 2 (rI μ 9 a1 2)) 9 a0 2) 60 60 = true then
      if cpo 0 0 (rI (wI (wI (wI μ 9 a0 0 (rI μ 9 a1 0)) 9 a0 1 (rI μ 9 a1 1)) 9 a0 2 (rI μ 9 a1 2)) 9 a0 2) 60 60 = true then
        if cpo 0 0 (rI (wI (wI (wI μ 9 a0 0 (rI μ 9 a1 0)) 9 a0 1 (rI μ 9 a1 1)) 9 a0 2 (rI μ 9 a1 2)) 9 a0 2) 60 60 = true then
          if cpo 0 0 (rI (wI (wI (wI μ 9 a0 0 (rI μ 9 a1 0)) 9 a0 1 (rI μ 9 a1 1)) 9 a0 2 (rI μ 9 a1 2)) 9 a0 2) 60 60 = true then
            if cpo 0 0 (rI (wI (wI (wI μ 9 a0 0 (rI μ 9 a1 0)) 9 a0 1 (rI μ 9 a1 1)) 9 a0 2 (rI μ 9 a1 2)) 9 a0 2) 60 60 = true then
              if cpo 0 0 (rI (wI (wI (wI μ 9 a0 0 (rI μ 9 a1 0)) 9 a0 1 (rI μ 9 a1 1)) 9 a0 2 (rI μ 9 a1 2)) 9 a0 2) 60 60 = true then
                some (cI (cI (cI (cI (cI (cI (wI (wI (wI μ 9 a0 0 (rI μ 9 a1 0)) 9 a0 1 (rI μ 9 a1 1)) 9 a0 2 (rI μ 9 a1 2)) 43 a1 (ix 0) 43 a0 (ix 0) (ix (rI (wI (wI (wI μ 9 a0 0 (rI μ 9 a1 0)) 9 a0 1 (rI μ 9 a1 1)) 9 a0 2 (rI μ 9 a1 2)) 9 a0 2))) 44 a1 (ix 0) 44 a0 (ix 0) (ix (rI (wI (wI (wI μ 9 a0 0 (rI μ 9 a1 0)) 9 a0 1 (rI μ 9 a1 1)) 9 a0 2 (rI μ 9 a1 2)) 9 a0 2))) 45 a1 (ix 0) 45 a0 (ix 0) (ix (rI (wI (wI (wI μ 9 a0 0 (rI μ 9 a1 0)) 9 a0 1 (rI μ 9 a1 1)) 9 a0 2 (rI μ 9 a1 2)) 9 a0 2))) 46 a1 (ix 0) 46 a0 (ix 0) (ix (rI (wI (wI (wI μ 9 a0 0 (rI μ 9 a1 0)) 9 a0 1 (rI μ 9 a1 1)) 9 a0 2 (rI μ 9 a1 2)) 9 a0 2))) 47 a1 (ix 0) 47 a0 (ix 0) (ix (rI (wI (wI (wI μ 9 a0 0 (rI μ 9 a1 0)) 9 a0 1 (rI μ 9 a1 1)) 9 a0 2 (rI μ 9 a1 2)) 9 a0 2))) 48 a1 (ix 0) 48 a0 (ix 0) (ix (rI (wI (wI (wI μ 9 a0 0 (rI μ 9 a1 0)) 9 a0 1 (rI μ 9 a1 1)) 9 a0 2 (rI μ 9 a1 2)) 9 a0 2)))
              else none
            else none
          else none
        else none
      else none
    else none
  else none
theorem tX8_copyFrom (a0 : Nat) (a1 : Nat) (μ : sM) : sMt yX8_copyFrom cX8_copyFrom 2 none 1 [vr 9 a0, vr 9 a1] μ (oV (X8_copyFrom a0 a1 μ)) := by
  refine sMt_of (own := 8) (bl := false) (by decide +kernel) rfl (Nat.le_of_ble_eq_true rfl) (fun r ρ h => ?_) ?_
  · obtain ⟨q, -, hq⟩ := Option.map_eq_some_iff.mp h
    cases hq
    exact rfl
  · unfold X8_copyFrom
    show sOk 8 cX8_copyFrom 2 1 false 0 [(0, vr 9 a0), (1, vr 9 a1)] [] μ _
    refine sBk (lo' := [(0, vr 9 a0), (1, vr 9 a1)]) (st' := [vi (rI μ 9 a1 0), vr 9 a0]) (μ' := μ) (pc' := 5) [(.aload_n 0, 0, 0, 0, 0), (.aload_n 1, 0, 0, 0, 0), (.getfield 30, 8, 0, 0, 0)] (by decide +kernel) rfl rfl ?_
    refine sS_pz oV rfl (idx := 30) (ci := 8) (sl := 0) (by decide +kernel) rfl rfl (fun _ => ?_)
    refine sBk (lo' := [(0, vr 9 a0), (1, vr 9 a1)]) (st' := [vi (rI (wI (wI (wI μ 9 a0 0 (rI μ 9 a1 0)) 9 a0 1 (rI μ 9 a1 1)) 9 a0 2 (rI μ 9 a1 2)) 9 a0 2), vi 0, vr 43 a0, vi 0, vr 43 a1]) (μ' := wI (wI (wI μ 9 a0 0 (rI μ 9 a1 0)) 9 a0 1 (rI μ 9 a1 1)) 9 a0 2 (rI μ 9 a1 2)) (pc' := 38) [(.aload_n 0, 0, 0, 0, 0), (.aload_n 1, 0, 0, 0, 0), (.getfield 34, 8, 1, 0, 0), (.putfield 34, 8, 1, 0, 0), (.aload_n 0, 0, 0, 0, 0), (.aload_n 1, 0, 0, 0, 0), (.getfield 38, 8, 2, 0, 0), (.putfield 38, 8, 2, 0, 0), (.aload_n 1, 0, 0, 0, 0), (.getfield 11, 8, 3, 0, 0), (.iconst 0, 0, 0, 0, 0), (.aload_n 0, 0, 0, 0, 0), (.getfield 11, 8, 3, 0, 0), (.iconst 0, 0, 0, 0, 0), (.aload_n 0, 0, 0, 0, 0), (.getfield 38, 8, 2, 0, 0)] (by decide +kernel) rfl rfl ?_
    refine sCk oV rfl (fun h => ?_)
    refine sCpI (q0 := (43, a1)) (q1 := (43, a0)) (idx := 41) (p1 := 1014) (by decide +kernel) rfl rfl (by decide) h ?_
    refine sBk (lo' := [(0, vr 9 a0), (1, vr 9 a1)]) (st' := [vi (rI (wI (wI (wI μ 9 a0 0 (rI μ 9 a1 0)) 9 a0 1 (rI μ 9 a1 1)) 9 a0 2 (rI μ 9 a1 2)) 9 a0 2), vi 0, vr 44 a0, vi 0, vr 44 a1]) (μ' := cI (wI (wI (wI μ 9 a0 0 (rI μ 9 a1 0)) 9 a0 1 (rI μ 9 a1 1)) 9 a0 2 (rI μ 9 a1 2)) 43 a1 (ix 0) 43 a0 (ix 0) (ix (rI (wI (wI (wI μ 9 a0 0 (rI μ 9 a1 0)) 9 a0 1 (rI μ 9 a1 1)) 9 a0 2 (rI μ 9 a1 2)) 9 a0 2))) (pc' := 55) [(.aload_n 1, 0, 0, 0, 0), (.getfield 15, 8, 4, 0, 0), (.iconst 0, 0, 0, 0, 0), (.aload_n 0, 0, 0, 0, 0), (.getfield 15, 8, 4, 0, 0), (.iconst 0, 0, 0, 0, 0), (.aload_n 0, 0, 0, 0, 0), (.getfield 38, 8, 2, 0, 0)] (by decide +kernel) rfl rfl ?_
    refine sCk oV rfl (fun h => ?_)
    refine sCpI (q0 := (44, a1)) (q1 := (44, a0)) (idx := 41) (p1 := 1014) (by decide +kernel) rfl rfl (by decide) h ?_
    refine sBk (lo' := [(0, vr 9 a0), (1, vr 9 a1)]) (st' := [vi (rI (wI (wI (wI μ 9 a0 0 (rI μ 9 a1 0)) 9 a0 1 (rI μ 9 a1 1)) 9 a0 2 (rI μ 9 a1 2)) 9 a0 2), vi 0, vr 45 a0, vi 0, vr 45 a1]) (μ' := cI (cI (wI (wI (wI μ 9 a0 0 (rI μ 9 a1 0)) 9 a0 1 (rI μ 9 a1 1)) 9 a0 2 (rI μ 9 a1 2)) 43 a1 (ix 0) 43 a0 (ix 0) (ix (rI (wI (wI (wI μ 9 a0 0 (rI μ 9 a1 0)) 9 a0 1 (rI μ 9 a1 1)) 9 a0 2 (rI μ 9 a1 2)) 9 a0 2))) 44 a1 (ix 0) 44 a0 (ix 0) (ix (rI (wI (wI (wI μ 9 a0 0 (rI μ 9 a1 0)) 9 a0 1 (rI μ 9 a1 1)) 9 a0 2 (rI μ 9 a1 2)) 9 a0 2))) (pc' := 72) [(.aload_n 1, 0, 0, 0, 0), (.getfield 18, 8, 5, 0, 0), (.iconst 0, 0, 0, 0, 0), (.aload_n 0, 0, 0, 0, 0), (.getfield 18, 8, 5, 0, 0), (.iconst 0, 0, 0, 0, 0), (.aload_n 0, 0, 0, 0, 0), (.getfield 38, 8, 2, 0, 0)] (by decide +kernel) rfl rfl ?_
    refine sCk oV rfl (fun h => ?_)
    refine sCpI (q0 := (45, a1)) (q1 := (45, a0)) (idx := 41) (p1 := 1014) (by decide +kernel) rfl rfl (by decide) h ?_
    refine sBk (lo' := [(0, vr 9 a0), (1, vr 9 a1)]) (st' := [vi (rI (wI (wI (wI μ 9 a0 0 (rI μ 9 a1 0)) 9 a0 1 (rI μ 9 a1 1)) 9 a0 2 (rI μ 9 a1 2)) 9 a0 2), vi 0, vr 46 a0, vi 0, vr 46 a1]) (μ' := cI (cI (cI (wI (wI (wI μ 9 a0 0 (rI μ 9 a1 0)) 9 a0 1 (rI μ 9 a1 1)) 9 a0 2 (rI μ 9 a1 2)) 43 a1 (ix 0) 43 a0 (ix 0) (ix (rI (wI (wI (wI μ 9 a0 0 (rI μ 9 a1 0)) 9 a0 1 (rI μ 9 a1 1)) 9 a0 2 (rI μ 9 a1 2)) 9 a0 2))) 44 a1 (ix 0) 44 a0 (ix 0) (ix (rI (wI (wI (wI μ 9 a0 0 (rI μ 9 a1 0)) 9 a0 1 (rI μ 9 a1 1)) 9 a0 2 (rI μ 9 a1 2)) 9 a0 2))) 45 a1 (ix 0) 45 a0 (ix 0) (ix (rI (wI (wI (wI μ 9 a0 0 (rI μ 9 a1 0)) 9 a0 1 (rI μ 9 a1 1)) 9 a0 2 (rI μ 9 a1 2)) 9 a0 2))) (pc' := 89) [(.aload_n 1, 0, 0, 0, 0), (.getfield 21, 8, 6, 0, 0), (.iconst 0, 0, 0, 0, 0), (.aload_n 0, 0, 0, 0, 0), (.getfield 21, 8, 6, 0, 0), (.iconst 0, 0, 0, 0, 0), (.aload_n 0, 0, 0, 0, 0), (.getfield 38, 8, 2, 0, 0)] (by decide +kernel) rfl rfl ?_
    refine sCk oV rfl (fun h => ?_)
    refine sCpI (q0 := (46, a1)) (q1 := (46, a0)) (idx := 41) (p1 := 1014) (by decide +kernel) rfl rfl (by decide) h ?_
    refine sBk (lo' := [(0, vr 9 a0), (1, vr 9 a1)]) (st' := [vi (rI (wI (wI (wI μ 9 a0 0 (rI μ 9 a1 0)) 9 a0 1 (rI μ 9 a1 1)) 9 a0 2 (rI μ 9 a1 2)) 9 a0 2), vi 0, vr 47 a0, vi 0, vr 47 a1]) (μ' := cI (cI (cI (cI (wI (wI (wI μ 9 a0 0 (rI μ 9 a1 0)) 9 a0 1 (rI μ 9 a1 1)) 9 a0 2 (rI μ 9 a1 2)) 43 a1 (ix 0) 43 a0 (ix 0) (ix (rI (wI (wI (wI μ 9 a0 0 (rI μ 9 a1 0)) 9 a0 1 (rI μ 9 a1 1)) 9 a0 2 (rI μ 9 a1 2)) 9 a0 2))) 44 a1 (ix 0) 44 a0 (ix 0) (ix (rI (wI (wI (wI μ 9 a0 0 (rI μ 9 a1 0)) 9 a0 1 (rI μ 9 a1 1)) 9 a0 2 (rI μ 9 a1 2)) 9 a0 2))) 45 a1 (ix 0) 45 a0 (ix 0) (ix (rI (wI (wI (wI μ 9 a0 0 (rI μ 9 a1 0)) 9 a0 1 (rI μ 9 a1 1)) 9 a0 2 (rI μ 9 a1 2)) 9 a0 2))) 46 a1 (ix 0) 46 a0 (ix 0) (ix (rI (wI (wI (wI μ 9 a0 0 (rI μ 9 a1 0)) 9 a0 1 (rI μ 9 a1 1)) 9 a0 2 (rI μ 9 a1 2)) 9 a0 2))) (pc' := 106) [(.aload_n 1, 0, 0, 0, 0), (.getfield 24, 8, 7, 0, 0), (.iconst 0, 0, 0, 0, 0), (.aload_n 0, 0, 0, 0, 0), (.getfield 24, 8, 7, 0, 0), (.iconst 0, 0, 0, 0, 0), (.aload_n 0, 0, 0, 0, 0), (.getfield 38, 8, 2, 0, 0)] (by decide +kernel) rfl rfl ?_
    refine sCk oV rfl (fun h => ?_)
    refine sCpI (q0 := (47, a1)) (q1 := (47, a0)) (idx := 41) (p1 := 1014) (by decide +kernel) rfl rfl (by decide) h ?_
    refine sBk (lo' := [(0, vr 9 a0), (1, vr 9 a1)]) (st' := [vi (rI (wI (wI (wI μ 9 a0 0 (rI μ 9 a1 0)) 9 a0 1 (rI μ 9 a1 1)) 9 a0 2 (rI μ 9 a1 2)) 9 a0 2), vi 0, vr 48 a0, vi 0, vr 48 a1]) (μ' := cI (cI (cI (cI (cI (wI (wI (wI μ 9 a0 0 (rI μ 9 a1 0)) 9 a0 1 (rI μ 9 a1 1)) 9 a0 2 (rI μ 9 a1 2)) 43 a1 (ix 0) 43 a0 (ix 0) (ix (rI (wI (wI (wI μ 9 a0 0 (rI μ 9 a1 0)) 9 a0 1 (rI μ 9 a1 1)) 9 a0 2 (rI μ 9 a1 2)) 9 a0 2))) 44 a1 (ix 0) 44 a0 (ix 0) (ix (rI (wI (wI (wI μ 9 a0 0 (rI μ 9 a1 0)) 9 a0 1 (rI μ 9 a1 1)) 9 a0 2 (rI μ 9 a1 2)) 9 a0 2))) 45 a1 (ix 0) 45 a0 (ix 0) (ix (rI (wI (wI (wI μ 9 a0 0 (rI μ 9 a1 0)) 9 a0 1 (rI μ 9 a1 1)) 9 a0 2 (rI μ 9 a1 2)) 9 a0 2))) 46 a1 (ix 0) 46 a0 (ix 0) (ix (rI (wI (wI (wI μ 9 a0 0 (rI μ 9 a1 0)) 9 a0 1 (rI μ 9 a1 1)) 9 a0 2 (rI μ 9 a1 2)) 9 a0 2))) 47 a1 (ix 0) 47 a0 (ix 0) (ix (rI (wI (wI (wI μ 9 a0 0 (rI μ 9 a1 0)) 9 a0 1 (rI μ 9 a1 1)) 9 a0 2 (rI μ 9 a1 2)) 9 a0 2))) (pc' := 123) [(.aload_n 1, 0, 0, 0, 0), (.getfield 27, 8, 8, 0, 0), (.iconst 0, 0, 0, 0, 0), (.aload_n 0, 0, 0, 0, 0), (.getfield 27, 8, 8, 0, 0), (.iconst 0, 0, 0, 0, 0), (.aload_n 0, 0, 0, 0, 0), (.getfield 38, 8, 2, 0, 0)] (by decide +kernel) rfl rfl ?_
    refine sCk oV rfl (fun h => ?_)
    refine sCpI (q0 := (48, a1)) (q1 := (48, a0)) (idx := 41) (p1 := 1014) (by decide +kernel) rfl rfl (by decide) h ?_
    exact sRv (by decide +kernel)
