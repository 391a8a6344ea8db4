/-! 74: the class's HOUR shows the row behind the HOUR -/
theorem tmn (x y : Int32) : (imn x y).toInt = min x.toInt y.toInt := by
  show (if y < x then y else x).toInt = _
  by_cases h : y < x
  · rw [if_pos h]
    rw [Int32.lt_iff_toInt_lt] at h
    omega
  · rw [if_neg h]
    rw [Int32.lt_iff_toInt_lt] at h
    omega
theorem tmx (x y : Int32) : (imx x y).toInt = max x.toInt y.toInt := by
  show (if x < y then y else x).toInt = _
  by_cases h : x < y
  · rw [if_pos h]
    rw [Int32.lt_iff_toInt_lt] at h
    omega
  · rw [if_neg h]
    rw [Int32.lt_iff_toInt_lt] at h
    omega
theorem imn_c (x y : Int32) : imn x y = imn y x := Int32.toInt_inj.mp (by rw [tmn, tmn]; omega)
theorem t0 : (0 : Int32).toInt = 0 := rfl
theorem t1 : (1 : Int32).toInt = 1 := rfl
theorem wat_a {x y : Int32} (h1 : -2147483648 ≤ x.toInt + y.toInt) (h2 : x.toInt + y.toInt < 2147483648) : x.toInt64 + y.toInt64 = (x + y).toInt64 := by
  apply Int64.toInt_inj.mp
  have a := Int32.toInt_lt x
  have b := Int32.le_toInt x
  have c := Int32.toInt_lt y
  have d := Int32.le_toInt y
  rw [tX, tA h1 h2, tAL (by rw [tX, tX]; omega) (by rw [tX, tX]; omega), tX, tX]
theorem wat_s {x y : Int32} (h1 : -2147483648 ≤ x.toInt - y.toInt) (h2 : x.toInt - y.toInt < 2147483648) : x.toInt64 - y.toInt64 = (x + (-y)).toInt64 := by
  apply Int64.toInt_inj.mp
  have a := Int32.toInt_lt x
  have b := Int32.le_toInt x
  have c := Int32.toInt_lt y
  have d := Int32.le_toInt y
  rw [tX, ← Int32.sub_eq_add_neg, tS h1 h2, tSL (by rw [tX, tX]; omega) (by rw [tX, tX]; omega), tX, tX]
theorem rg_nI {x : Int32} {b : Nat} (h : rg x 0 b) : ∃ n : Nat, x = nI n ∧ n ≤ b ∧ (n : Int) = x.toInt := by
  have a := Int32.toInt_lt x
  refine ⟨ix x, ?_, ?_, ix_eq h.1⟩
  · apply Int32.toInt_inj.mp
    have e := ix_eq h.1
    rw [nI_toInt (by omega), e]
  · have e := ix_eq h.1
    have := h.2
    omega
/-- sums of bounded numbers -/
theorem sgm_b {g : Nat → Int32} {M : Int} (hM : 0 ≤ M) : ∀ (k i : Nat), k ≤ 6 → M ≤ 100000 → (∀ j, i ≤ j → j < i + k → 0 ≤ (g j).toInt ∧ (g j).toInt ≤ M) → 0 ≤ (sgm g i k).toInt ∧ (sgm g i k).toInt ≤ k * M
  | 0, i, _, _, _ => by
    unfold sgm
    rw [t0]
    omega
  | k + 1, i, hk, hm, h => by
    have ih := sgm_b hM k (i + 1) (by omega) hm (fun j a b => h j (by omega) (by omega))
    have h0 := h i (Nat.le_refl i) (by omega)
    have e1 : ((k + 1 : Nat) : Int) * M = k * M + M := by
      rw [Int.natCast_add, Int.add_mul]
      simp
    have e2 : (k : Int) * M ≤ 600000 := by
      have : (k : Int) * M ≤ 6 * 100000 := Int.mul_le_mul (by omega) hm hM (by omega)
      omega
    unfold sgm
    rw [tA (by omega) (by omega), e1]
    omega
theorem sgm_const (d : Int32) : ∀ (k i : Nat), sgm (fun _ => d) i k = d * nI k
  | 0, i => by
    unfold sgm
    rw [nI_0, Int32.mul_zero]
  | k + 1, i => by
    unfold sgm
    rw [sgm_const d k (i + 1), nI_succ, Int32.mul_add, Int32.mul_one, Int32.add_comm]
section H74
variable {μ : sM} {r n m : Nat} {f P : Nat → Int32} {B : Int}
/-- what an HOUR's laws ask of the row, the counts, and what passed -/
def Hyp (B : Int) (f P : Nat → Int32) (n m : Nat) : Prop := OkR B f ∧ f 0 = nI n ∧ f 1 = nI m ∧ n ≤ 6 ∧ m ≤ 6 ∧ (f 6).toInt ≤ 10599 ∧ (0 ≤ B ∧ B ≤ 1000000000) ∧ ∀ j, j < n → P j = paF f j
theorem Hyp.pb (h : Hyp B f P n m) {j : Nat} (hj : j < n) : 0 ≤ (P j).toInt ∧ (P j).toInt ≤ 99 ∧ (P j).toInt ≤ (f (28 + j)).toInt := by
  obtain ⟨ok, hn, hm, n6, m6, h6, hB, hP⟩ := h
  have hr := ok.2.2.2.1 j (by rw [hn, nI_toInt (by omega)]; omega)
  rw [hP j hj]
  unfold paF
  rw [tmn]
  obtain ⟨a, b, c, d⟩ := hr
  unfold rg at a b
  omega
theorem Hyp.wat (h : Hyp B f P n m) {j : Nat} (hj : j < 6) : -1200000000 ≤ (f (10 + j)).toInt ∧ (f (10 + j)).toInt ≤ 1200000000 := by
  obtain ⟨ok, hn, hm, n6, m6, h6, hB, hP⟩ := h
  have hr := ok.2.2.1 j hj
  unfold rg at hr
  have := ok.2.1.2.2.2.1
  unfold rg at this
  omega
theorem Hyp.tu (h : Hyp B f P n m) : -60 ≤ (f 9).toInt ∧ (f 9).toInt ≤ 60 := h.1.2.1.2.2.2.2.2.2
/-- the row behind the run -/
theorem flow_in (h : Hyp B f P n m) {j : Nat} (hj : j < n) : flowF f P n (28 + j) = f (28 + j) + ((if f 9 < 0 then (if j + 1 = n then -(f 9) else P (j + 1)) else (if j = 0 then f 9 else P (j - 1))) - P j) := by
  unfold flowF
  by_cases t : f 9 < 0
  · rw [if_pos t, if_pos t]
    unfold upF
    rw [if_neg (by omega), if_neg (by omega), if_pos (by omega), show 28 + j - 28 = j by omega, show 28 + j - 27 = j + 1 by omega]
    by_cases e : j + 1 = n
    · rw [if_pos e, if_pos (by omega)]
    · rw [if_neg e, if_neg (by omega)]
  · rw [if_neg t, if_neg t]
    unfold dnF
    rw [if_neg (by omega), if_neg (by omega), if_pos (by omega), show 28 + j - 28 = j by omega]
    by_cases e : j = 0
    · rw [if_pos e, if_pos (by omega)]
    · rw [if_neg e, if_neg (by omega), show 28 + j - 29 = j - 1 by omega]
theorem flow_b (h : Hyp B f P n m) {j : Nat} (hj : j < n) : 0 ≤ (flowF f P n (28 + j)).toInt ∧ (flowF f P n (28 + j)).toInt ≤ 1098 := by
  rw [flow_in h hj]
  have p0 := h.pb hj
  have tt := h.tu
  have hr := h.1.2.2.2.1 j (by rw [h.2.1, nI_toInt (by have := h.2.2.2.1; omega)]; omega)
  unfold rg at hr
  have hin : 0 ≤ (if f 9 < 0 then (if j + 1 = n then -(f 9) else P (j + 1)) else (if j = 0 then f 9 else P (j - 1))).toInt ∧ (if f 9 < 0 then (if j + 1 = n then -(f 9) else P (j + 1)) else (if j = 0 then f 9 else P (j - 1))).toInt ≤ 99 := by
    by_cases t : f 9 < 0
    · rw [if_pos t]
      rw [Int32.lt_iff_toInt_lt, t0] at t
      by_cases e : j + 1 = n
      · rw [if_pos e, tN (by omega)]
        omega
      · rw [if_neg e]
        have := h.pb (j := j + 1) (by omega)
        omega
    · rw [if_neg t]
      rw [Int32.lt_iff_toInt_lt, t0] at t
      by_cases e : j = 0
      · rw [if_pos e]
        omega
      · rw [if_neg e]
        have := h.pb (j := j - 1) (by omega)
        omega
  generalize (if f 9 < 0 then (if j + 1 = n then -(f 9) else P (j + 1)) else (if j = 0 then f 9 else P (j - 1))) = z at hin ⊢
  rw [tA (by rw [tS (by omega) (by omega)]; omega) (by rw [tS (by omega) (by omega)]; omega), tS (by omega) (by omega)]
  omega
/-- what the run leaves alone -/
theorem flow_o {j : Nat} (h1 : j < 10 ∨ j = 13 ∨ 15 ≤ j) (h2 : j < 28 ∨ 28 + n ≤ j) : flowF f P n j = f j := by
  unfold flowF
  by_cases t : f 9 < 0
  · rw [if_pos t]
    unfold upF
    rw [if_neg (by omega), if_neg (by omega), if_neg (by omega)]
  · rw [if_neg t]
    unfold dnF
    rw [if_neg (by omega), if_neg (by omega), if_neg (by omega)]
end H74
