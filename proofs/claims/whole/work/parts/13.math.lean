/-! 13: Math, as one step each -/
abbrev imn (x y : Int32) : Int32 := if y < x then y else x
abbrev imx (x y : Int32) : Int32 := if x < y then y else x
abbrev lmx (x y : Int64) : Int64 := if y < x then x else y
abbrev lab (x : Int64) : Int64 := if 0 < x then x else -x
theorem ma_ini : Cond.initialized "java/lang/Math" ∈ sT := sT_in (n := 151) (by decide +kernel) rfl
section M13
variable {own : Nat} {cc : ByteArray} {nL d : Nat} {bl : Bool} {pc : Nat} {lo : sL} {t : List sV} {μ : sM} {o : Option (Option sV × sM)} {idx p1 : Nat}
theorem sMin_st : Cond.static Lib.Math.min.name ∈ sT := sT_in (n := 754) (by decide +kernel) rfl
theorem sMin_cd : Cond.code Lib.Math.min.name Lib.Math.min.code 2 (some .int) ∈ sT := sT_in (n := 755) (by decide +kernel) rfl
def sMin_w (cc : ByteArray) (own pc idx p1 : Nat) : Bool := decide (decode cc pc = .ok (.invokestatic idx, 3)) && decide (lw_tbl[p1]? = some (Cond.methodLink (kRn own) idx Lib.Math.min.name))
theorem sMin {x y : Int32} (hw : sMin_w cc own pc idx p1 = true) (hd1 : 1 ≤ d) (hrm : scat t ≤ 8) (k : sOk own cc nL d bl (pc + 3) lo (.inl (imn x y) :: t) μ o) : sOk own cc nL d bl pc lo (.inl y :: .inl x :: t) μ o := by
  intro r ρ ho E p l e R s m args below meth c cells slots Q G H locs ls A
  have K := k r ρ ho E p l e R s m args below meth c cells slots Q G
  obtain ⟨hE, ⟨hx, hcc, hml, hown, hts, hwm, hlow, hsz⟩, hR, -⟩ := G
  unfold sMin_w at hw
  rw [Bool.and_eq_true, decide_eq_true_eq, decide_eq_true_eq] at hw
  refine va_mmin hx hcc (hml.trans A.2.2.2.2.1.symm) hown (hts _ (sT_in hw.2 rfl)) (hts _ sMin_st) (hts _ ma_ini) (hts _ sMin_cd) (by omega) ?_ hR.2.2.1 hR.2.2.2 hw.1 (K H locs ls ⟨A.1, A.2.1, sl_cons trivial (sl_tail (sl_tail A.2.2.1)), A.2.2.2⟩)
  show ((t.map (gm E)).map _).sum + 13 ≤ _
  rw [scat_gm]
  omega
theorem sMax_st : Cond.static Lib.Math.max.name ∈ sT := sT_in (n := 1118) (by decide +kernel) rfl
theorem sMax_cd : Cond.code Lib.Math.max.name Lib.Math.max.code 2 (some .int) ∈ sT := sT_in (n := 1119) (by decide +kernel) rfl
def sMax_w (cc : ByteArray) (own pc idx p1 : Nat) : Bool := decide (decode cc pc = .ok (.invokestatic idx, 3)) && decide (lw_tbl[p1]? = some (Cond.methodLink (kRn own) idx Lib.Math.max.name))
theorem sMax {x y : Int32} (hw : sMax_w cc own pc idx p1 = true) (hd1 : 1 ≤ d) (hrm : scat t ≤ 8) (k : sOk own cc nL d bl (pc + 3) lo (.inl (imx x y) :: t) μ o) : sOk own cc nL d bl pc lo (.inl y :: .inl x :: t) μ o := by
  intro r ρ ho E p l e R s m args below meth c cells slots Q G H locs ls A
  have K := k r ρ ho E p l e R s m args below meth c cells slots Q G
  obtain ⟨hE, ⟨hx, hcc, hml, hown, hts, hwm, hlow, hsz⟩, hR, -⟩ := G
  unfold sMax_w at hw
  rw [Bool.and_eq_true, decide_eq_true_eq, decide_eq_true_eq] at hw
  refine va_mmax hx hcc (hml.trans A.2.2.2.2.1.symm) hown (hts _ (sT_in hw.2 rfl)) (hts _ sMax_st) (hts _ ma_ini) (hts _ sMax_cd) (by omega) ?_ hR.2.2.1 hR.2.2.2 hw.1 (K H locs ls ⟨A.1, A.2.1, sl_cons trivial (sl_tail (sl_tail A.2.2.1)), A.2.2.2⟩)
  show ((t.map (gm E)).map _).sum + 13 ≤ _
  rw [scat_gm]
  omega
theorem sMaxL_st : Cond.static Lib.MathLoose.max_long.x ∈ sT := sT_in (n := 1351) (by decide +kernel) rfl
theorem sMaxL_cd : Cond.code Lib.MathLoose.max_long.x Lib.MathLoose.max_long.code 4 (some .long) ∈ sT := sT_in (n := 1352) (by decide +kernel) rfl
def sMaxL_w (cc : ByteArray) (own pc idx p1 : Nat) : Bool := decide (decode cc pc = .ok (.invokestatic idx, 3)) && decide (lw_tbl[p1]? = some (Cond.methodLink (kRn own) idx Lib.MathLoose.max_long.x))
theorem sMaxL {x y : Int64} (hw : sMaxL_w cc own pc idx p1 = true) (hd1 : 1 ≤ d) (hrm : scat t ≤ 8) (k : sOk own cc nL d bl (pc + 3) lo (.inr (.inl (lmx x y)) :: t) μ o) : sOk own cc nL d bl pc lo (.inr (.inl y) :: .inr (.inl x) :: t) μ o := by
  intro r ρ ho E p l e R s m args below meth c cells slots Q G H locs ls A
  have K := k r ρ ho E p l e R s m args below meth c cells slots Q G
  obtain ⟨hE, ⟨hx, hcc, hml, hown, hts, hwm, hlow, hsz⟩, hR, -⟩ := G
  unfold sMaxL_w at hw
  rw [Bool.and_eq_true, decide_eq_true_eq, decide_eq_true_eq] at hw
  refine va_mmax_long hx hcc (hml.trans A.2.2.2.2.1.symm) hown (hts _ (sT_in hw.2 rfl)) (hts _ sMaxL_st) (hts _ ma_ini) (hts _ sMaxL_cd) (by omega) ?_ hR.2.2.1 hR.2.2.2 hw.1 (K H locs ls ⟨A.1, A.2.1, sl_cons trivial (sl_tail (sl_tail A.2.2.1)), A.2.2.2⟩)
  show ((t.map (gm E)).map _).sum + 15 ≤ _
  rw [scat_gm]
  omega
theorem sAbsL_st : Cond.static Lib.MathLoose.abs_long.x ∈ sT := sT_in (n := 2167) (by decide +kernel) rfl
theorem sAbsL_cd : Cond.code Lib.MathLoose.abs_long.x Lib.MathLoose.abs_long.code 2 (some .long) ∈ sT := sT_in (n := 2168) (by decide +kernel) rfl
def sAbsL_w (cc : ByteArray) (own pc idx p1 : Nat) : Bool := decide (decode cc pc = .ok (.invokestatic idx, 3)) && decide (lw_tbl[p1]? = some (Cond.methodLink (kRn own) idx Lib.MathLoose.abs_long.x))
theorem sAbsL {x : Int64} (hw : sAbsL_w cc own pc idx p1 = true) (hd1 : 1 ≤ d) (hrm : scat t ≤ 8) (k : sOk own cc nL d bl (pc + 3) lo (.inr (.inl (lab x)) :: t) μ o) : sOk own cc nL d bl pc lo (.inr (.inl x) :: t) μ o := by
  intro r ρ ho E p l e R s m args below meth c cells slots Q G H locs ls A
  have K := k r ρ ho E p l e R s m args below meth c cells slots Q G
  obtain ⟨hE, ⟨hx, hcc, hml, hown, hts, hwm, hlow, hsz⟩, hR, -⟩ := G
  unfold sAbsL_w at hw
  rw [Bool.and_eq_true, decide_eq_true_eq, decide_eq_true_eq] at hw
  refine va_mabs_long hx hcc (hml.trans A.2.2.2.2.1.symm) hown (hts _ (sT_in hw.2 rfl)) (hts _ sAbsL_st) (hts _ ma_ini) (hts _ sAbsL_cd) (by omega) ?_ hR.2.2.1 hR.2.2.2 hw.1 (K H locs ls ⟨A.1, A.2.1, sl_cons trivial (sl_tail A.2.2.1), A.2.2.2⟩)
  show ((t.map (gm E)).map _).sum + 13 ≤ _
  rw [scat_gm]
  omega
end M13
theorem pr1 {n : Nat} (h : ¬ n = 0) : n = n - 1 + 1 := by omega
/-! the words' String: to be proved -/
section W13
variable {own : Nat} {cc : ByteArray} {nL d : Nat} {bl : Bool} {pc : Nat} {lo : sL} {t : List sV} {μ : sM} {o : Option (Option sV × sM)} {x : Int32} {n : Nat}
theorem sSd {df : Nat} {st : List sV} (k : sOk own cc nL d bl df lo st μ o) : sOk own cc nL d bl (swl [] df x) lo st μ o := k
end W13
