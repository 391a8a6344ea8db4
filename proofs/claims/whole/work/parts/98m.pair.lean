/-! 98m: the words as both sides ask for them -/
section C98m
variable {μ ν : sM} {b : Nat → Int32} {n i m K s : Nat} {V : Int64}
def spv (a0 a1 a2 a3 a4 a5 : Int32) : Int64 :=
  let w2 := ((a0.toInt64 - 96) * 32 + a1.toInt64) - 96
  let w3 := if a2 ≤ 0 then w2 else (w2 * 32 + a2.toInt64) - 96
  let w4 := if a3 ≤ 0 then w3 else (w3 * 32 + a3.toInt64) - 96
  let w5 := if a4 ≤ 0 then w4 else (w4 * 32 + a4.toInt64) - 96
  if a5 ≤ 0 then w5 else (w5 * 32 + a5.toInt64) - 96
theorem sp_e (a0 a1 a2 a3 a4 a5 : Int32) (ν : sM) : X12_spelled a0 a1 a2 a3 a4 a5 ν = some (spv a0 a1 a2 a3 a4 a5, ν) := by
  unfold X12_spelled X12_spelled_J41 X12_spelled_J65 X12_spelled_J91 spv
  by_cases c2 : a2 ≤ 0 <;> by_cases c3 : a3 ≤ 0 <;> by_cases c4 : a4 ≤ 0 <;> by_cases c5 : a5 ≤ 0 <;> simp only [c2, c3, c4, c5, ↓reduceIte]
theorem lgE (x y : Int64) : lg_cmp x y = 0 ↔ x = y := lg_cmp_eq x y
theorem isW {k : Nat} (h : TR K V ν) (hk : k < 27) : X12_isWord (kw k) ν = some (if K = k then 1 else 0, ν) := by
  unfold X12_isWord
  rcases h with ⟨K28, t, hw, -⟩ | ⟨rfl, t, -⟩ | ⟨rfl, t, -⟩ | ⟨rfl, t⟩ | ⟨rfl, t⟩
  · rw [t, if_pos rfl]
    by_cases c : K = k
    · rw [if_pos ((lgE _ _).mpr ((hw k hk).mpr c)), if_pos c]
    · rw [if_neg (fun z => c ((hw k hk).mp ((lgE _ _).mp z))), if_neg c]
  · rw [t, if_neg (by decide +kernel), if_neg (by omega)]
  · rw [t, if_neg (by decide +kernel), if_neg (by omega)]
  · rw [t, if_neg (by decide +kernel), if_neg (by omega)]
  · rw [t, if_neg (by decide +kernel), if_neg (by omega)]
theorem ck_01 {c : Prop} [Decidable c] (ν : sM) : (if (if c then (1 : Int32) else 0) = 0 ∨ (if c then (1 : Int32) else 0) = 1 then some ((if c then (1 : Int32) else 0), ν) else none) = some ((if c then (1 : Int32) else 0), ν) := by
  by_cases h : c
  · rw [if_pos h, if_pos (Or.inr rfl)]
  · rw [if_neg h, if_pos (Or.inl rfl)]
theorem is_Turns (h : TR K V ν) : X12_isTurns ν = some (if K = 0 then 1 else 0, ν) := by
  unfold X12_isTurns
  rw [sp_e, bL_s, show spv 116 117 114 110 115 0 = kw 0 from by decide +kernel, isW h (by omega), bI_s]
  exact ck_01 ν
theorem is_Slack (h : TR K V ν) : X12_isSlack ν = some (if K = 1 then 1 else 0, ν) := by
  unfold X12_isSlack
  rw [sp_e, bL_s, show spv 115 108 97 99 107 0 = kw 1 from by decide +kernel, isW h (by omega), bI_s]
  exact ck_01 ν
theorem is_Odds (h : TR K V ν) : X12_isOdds ν = some (if K = 3 then 1 else 0, ν) := by
  unfold X12_isOdds
  rw [sp_e, bL_s, show spv 111 100 100 115 0 0 = kw 3 from by decide +kernel, isW h (by omega), bI_s]
  exact ck_01 ν
theorem is_Reach (h : TR K V ν) : X12_isReach ν = some (if K = 4 then 1 else 0, ν) := by
  unfold X12_isReach
  rw [sp_e, bL_s, show spv 114 101 97 99 104 0 = kw 4 from by decide +kernel, isW h (by omega), bI_s]
  exact ck_01 ν
theorem is_Bank (h : TR K V ν) : X12_isBank ν = some (if K = 5 then 1 else 0, ν) := by
  unfold X12_isBank
  rw [sp_e, bL_s, show spv 98 97 110 107 0 0 = kw 5 from by decide +kernel, isW h (by omega), bI_s]
  exact ck_01 ν
theorem is_Gate (h : TR K V ν) : X12_isGate ν = some (if K = 6 then 1 else 0, ν) := by
  unfold X12_isGate
  rw [sp_e, bL_s, show spv 103 97 116 101 0 0 = kw 6 from by decide +kernel, isW h (by omega), bI_s]
  exact ck_01 ν
theorem is_Holds (h : TR K V ν) : X12_isHolds ν = some (if K = 7 then 1 else 0, ν) := by
  unfold X12_isHolds
  rw [sp_e, bL_s, show spv 104 111 108 100 115 0 = kw 7 from by decide +kernel, isW h (by omega), bI_s]
  exact ck_01 ν
theorem is_Mill (h : TR K V ν) : X12_isMill ν = some (if K = 8 then 1 else 0, ν) := by
  unfold X12_isMill
  rw [sp_e, bL_s, show spv 109 105 108 108 0 0 = kw 8 from by decide +kernel, isW h (by omega), bI_s]
  exact ck_01 ν
theorem is_At (h : TR K V ν) : X12_isAt ν = some (if K = 9 then 1 else 0, ν) := by
  unfold X12_isAt
  rw [sp_e, bL_s, show spv 97 116 0 0 0 0 = kw 9 from by decide +kernel, isW h (by omega), bI_s]
  exact ck_01 ν
theorem is_Needs (h : TR K V ν) : X12_isNeeds ν = some (if K = 10 then 1 else 0, ν) := by
  unfold X12_isNeeds
  rw [sp_e, bL_s, show spv 110 101 101 100 115 0 = kw 10 from by decide +kernel, isW h (by omega), bI_s]
  exact ck_01 ν
theorem is_Winder (h : TR K V ν) : X12_isWinder ν = some (if K = 11 then 1 else 0, ν) := by
  unfold X12_isWinder
  rw [sp_e, bL_s, show spv 119 105 110 100 101 114 = kw 11 from by decide +kernel, isW h (by omega), bI_s]
  exact ck_01 ν
theorem is_Wage (h : TR K V ν) : X12_isWage ν = some (if K = 13 then 1 else 0, ν) := by
  unfold X12_isWage
  rw [sp_e, bL_s, show spv 119 97 103 101 0 0 = kw 13 from by decide +kernel, isW h (by omega), bI_s]
  exact ck_01 ν
theorem is_Back (h : TR K V ν) : X12_isBack ν = some (if K = 16 then 1 else 0, ν) := by
  unfold X12_isBack
  rw [sp_e, bL_s, show spv 98 97 99 107 0 0 = kw 16 from by decide +kernel, isW h (by omega), bI_s]
  exact ck_01 ν
theorem is_End (h : TR K V ν) : X12_isEnd ν = some (if K = 25 then 1 else 0, ν) := by
  unfold X12_isEnd
  rw [sp_e, bL_s, show spv 101 110 100 0 0 0 = kw 25 from by decide +kernel, isW h (by omega), bI_s]
  exact ck_01 ν
theorem is_Strength (h : TR K V ν) : X12_isStrength ν = some (if K = 12 then 1 else 0, ν) := by
  unfold X12_isStrength
  rw [sp_e, bL_s, show (spv 115 116 114 101 110 103 * 32 + 20) * 32 + 8 = kw 12 from by decide +kernel, isW h (by omega), bI_s]
  exact ck_01 ν
def sWd (K : Nat) : Int32 := if K = 14 then 0 else if K = 15 then 1 else if K = 17 then 2 else if K = 6 then 3 else if K = 2 then 4 else if K = 18 then 5 else if K = 19 then 6 else if K = 20 then 7 else if K = 24 then 8 else if K = 26 then 9 else -1
def teW (K : Nat) : Int32 := if K = 21 then 0 else if K = 22 then 1 else if K = 23 then 2 else -1
theorem stepW (h : TR K V ν) : X12_stepWord ν = some (sWd K, ν) := by
  unfold X12_stepWord sWd
  rw [sp_e, bL_s, show spv 104 111 117 114 0 0 = kw 14 from by decide +kernel, isW h (by omega), bI_s]
  by_cases c14 : K = 14
  · rw [if_pos c14, if_neg n10, if_pos c14]
  rw [if_neg c14, if_pos rfl, if_neg c14]
  rw [sp_e, bL_s, show spv 119 105 110 100 0 0 = kw 15 from by decide +kernel, isW h (by omega), bI_s]
  by_cases c15 : K = 15
  · rw [if_pos c15, if_neg n10, if_pos c15]
  rw [if_neg c15, if_pos rfl, if_neg c15]
  rw [sp_e, bL_s, show spv 111 105 108 0 0 0 = kw 17 from by decide +kernel, isW h (by omega), bI_s]
  by_cases c17 : K = 17
  · rw [if_pos c17, if_neg n10, if_pos c17]
  rw [if_neg c17, if_pos rfl, if_neg c17]
  rw [is_Gate h, bI_s]
  by_cases c6 : K = 6
  · rw [if_pos c6, if_neg n10, if_pos c6]
  rw [if_neg c6, if_pos rfl, if_neg c6]
  rw [sp_e, bL_s, show spv 114 97 105 110 0 0 = kw 2 from by decide +kernel, isW h (by omega), bI_s]
  by_cases c2 : K = 2
  · rw [if_pos c2, if_neg n10, if_pos c2]
  rw [if_neg c2, if_pos rfl, if_neg c2]
  rw [sp_e, bL_s, show spv 100 114 121 0 0 0 = kw 18 from by decide +kernel, isW h (by omega), bI_s]
  by_cases c18 : K = 18
  · rw [if_pos c18, if_neg n10, if_pos c18]
  rw [if_neg c18, if_pos rfl, if_neg c18]
  rw [sp_e, bL_s, show spv 97 110 121 0 0 0 = kw 19 from by decide +kernel, isW h (by omega), bI_s]
  by_cases c19 : K = 19
  · rw [if_pos c19, if_neg n10, if_pos c19]
  rw [if_neg c19, if_pos rfl, if_neg c19]
  rw [sp_e, bL_s, show spv 119 104 101 110 0 0 = kw 20 from by decide +kernel, isW h (by omega), bI_s]
  by_cases c20 : K = 20
  · rw [if_pos c20, if_neg n10, if_pos c20]
  rw [if_neg c20, if_pos rfl, if_neg c20]
  rw [sp_e, bL_s, show spv 108 111 111 112 0 0 = kw 24 from by decide +kernel, isW h (by omega), bI_s]
  by_cases c24 : K = 24
  · rw [if_pos c24, if_neg n10, if_pos c24]
  rw [if_neg c24, if_pos rfl, if_neg c24]
  rw [sp_e, bL_s, show spv 115 116 111 112 0 0 = kw 26 from by decide +kernel, isW h (by omega), bI_s]
  by_cases c26 : K = 26
  · rw [if_pos c26, if_neg n10, if_pos c26]
  rw [if_neg c26, if_pos rfl, if_neg c26]
theorem testW (h : TR K V ν) : X12_testWord ν = some (teW K, ν) := by
  unfold X12_testWord teW
  rw [sp_e, bL_s, show spv 115 116 111 114 101 100 = kw 21 from by decide +kernel, isW h (by omega), bI_s]
  by_cases c21 : K = 21
  · rw [if_pos c21, if_neg n10, if_pos c21]
  rw [if_neg c21, if_pos rfl, if_neg c21]
  rw [sp_e, bL_s, show spv 103 114 111 117 110 100 = kw 22 from by decide +kernel, isW h (by omega), bI_s]
  by_cases c22 : K = 22
  · rw [if_pos c22, if_neg n10, if_pos c22]
  rw [if_neg c22, if_pos rfl, if_neg c22]
  rw [sp_e, bL_s, show spv 114 97 105 110 105 110 * 32 + 7 = kw 23 from by decide +kernel, isW h (by omega), bI_s]
  by_cases c23 : K = 23
  · rw [if_pos c23, if_neg n10, if_pos c23]
  rw [if_neg c23, if_pos rfl, if_neg c23]
theorem sWd_n {K : Nat} (h : ¬ 0 ≤ sWd K) : K ≠ 14 ∧ K ≠ 15 ∧ K ≠ 17 ∧ K ≠ 6 ∧ K ≠ 2 ∧ K ≠ 18 ∧ K ≠ 19 ∧ K ≠ 20 ∧ K ≠ 24 ∧ K ≠ 26 := by
  refine ⟨?_, ?_, ?_, ?_, ?_, ?_, ?_, ?_, ?_, ?_⟩ <;> rintro rfl <;> exact h (by decide +kernel)
theorem teW_n {K : Nat} (h : ¬ 0 ≤ teW K) : K ≠ 21 ∧ K ≠ 22 ∧ K ≠ 23 := by
  refine ⟨?_, ?_, ?_⟩ <;> rintro rfl <;> exact h (by decide +kernel)
theorem sWd_27 : ¬ 0 ≤ sWd 27 ∧ ¬ 0 ≤ teW 27 := by decide +kernel
theorem is_Kept (h : TR K V ν) (K27 : K ≤ 27) : X12_isKept ν = some (if K < 27 then 1 else 0, ν) := by
  unfold X12_isKept
  rw [is_Turns h, bI_s]
  by_cases c0 : K = 0
  · rw [if_pos c0, if_neg n10, if_pos (show K < 27 by omega)]
  rw [if_neg c0, if_pos rfl]
  rw [is_Slack h, bI_s]
  by_cases c1 : K = 1
  · rw [if_pos c1, if_neg n10, if_pos (show K < 27 by omega)]
  rw [if_neg c1, if_pos rfl]
  rw [is_Odds h, bI_s]
  by_cases c3 : K = 3
  · rw [if_pos c3, if_neg n10, if_pos (show K < 27 by omega)]
  rw [if_neg c3, if_pos rfl]
  rw [is_Reach h, bI_s]
  by_cases c4 : K = 4
  · rw [if_pos c4, if_neg n10, if_pos (show K < 27 by omega)]
  rw [if_neg c4, if_pos rfl]
  rw [is_Bank h, bI_s]
  by_cases c5 : K = 5
  · rw [if_pos c5, if_neg n10, if_pos (show K < 27 by omega)]
  rw [if_neg c5, if_pos rfl]
  rw [is_Holds h, bI_s]
  by_cases c7 : K = 7
  · rw [if_pos c7, if_neg n10, if_pos (show K < 27 by omega)]
  rw [if_neg c7, if_pos rfl]
  rw [is_Mill h, bI_s]
  by_cases c8 : K = 8
  · rw [if_pos c8, if_neg n10, if_pos (show K < 27 by omega)]
  rw [if_neg c8, if_pos rfl]
  rw [is_At h, bI_s]
  by_cases c9 : K = 9
  · rw [if_pos c9, if_neg n10, if_pos (show K < 27 by omega)]
  rw [if_neg c9, if_pos rfl]
  rw [is_Needs h, bI_s]
  by_cases c10 : K = 10
  · rw [if_pos c10, if_neg n10, if_pos (show K < 27 by omega)]
  rw [if_neg c10, if_pos rfl]
  rw [is_Winder h, bI_s]
  by_cases c11 : K = 11
  · rw [if_pos c11, if_neg n10, if_pos (show K < 27 by omega)]
  rw [if_neg c11, if_pos rfl]
  rw [is_Strength h, bI_s]
  by_cases c12 : K = 12
  · rw [if_pos c12, if_neg n10, if_pos (show K < 27 by omega)]
  rw [if_neg c12, if_pos rfl]
  rw [is_Wage h, bI_s]
  by_cases c13 : K = 13
  · rw [if_pos c13, if_neg n10, if_pos (show K < 27 by omega)]
  rw [if_neg c13, if_pos rfl]
  rw [is_Back h, bI_s]
  by_cases c16 : K = 16
  · rw [if_pos c16, if_neg n10, if_pos (show K < 27 by omega)]
  rw [if_neg c16, if_pos rfl]
  rw [stepW h, bI_s]
  by_cases cs : 0 ≤ sWd K
  · have : K ≠ 27 := fun e => sWd_27.1 (by rw [← e]; exact cs)
    rw [if_pos cs, if_pos (show K < 27 by omega)]
  rw [if_neg cs, testW h, bI_s]
  by_cases ct : 0 ≤ teW K
  · have : K ≠ 27 := fun e => sWd_27.2 (by rw [← e]; exact ct)
    rw [if_pos ct, if_pos (show K < 27 by omega)]
  rw [if_neg ct, is_End h, bI_s]
  by_cases c25 : K = 25
  · rw [if_pos c25, if_neg n10, if_pos (show K < 27 by omega)]
  · have z1 := sWd_n cs
    have z2 := teW_n ct
    rw [if_neg c25, if_pos rfl, if_neg (show ¬ K < 27 by omega)]
theorem is_Name (h : TR K V ν) : X12_isName ν = some (if K = 27 then 1 else 0, ν) := by
  have h' := h
  unfold X12_isName
  rcases h with ⟨K28, t, hw, hl⟩ | ⟨rfl, t, -⟩ | ⟨rfl, t, -⟩ | ⟨rfl, t⟩ | ⟨rfl, t⟩
  · rw [t, if_pos rfl]
    rcases hl with ⟨rfl, l⟩ | ⟨k27, l, -⟩
    · rw [if_pos (Int32.not_le.mp l), if_neg (by omega)]
    · rw [if_neg (fun z => absurd l (Int32.not_le.mpr z)), is_Kept h' k27, bI_s]
      by_cases c : K = 27
      · rw [if_neg (show ¬ K < 27 by omega), if_pos rfl, if_pos c]
      · rw [if_pos (show K < 27 by omega), if_neg n10, if_neg c]
  · rw [t, if_neg (by decide +kernel), if_neg (by omega)]
  · rw [t, if_neg (by decide +kernel), if_neg (by omega)]
  · rw [t, if_neg (by decide +kernel), if_neg (by omega)]
  · rw [t, if_neg (by decide +kernel), if_neg (by omega)]
/-! both tapes, side by side -/
def qXt (k _ j : Nat) : Bool := !(k == 7 && (Nat.ble 2 j && Nat.ble j 7))
def qMt (k _ j : Nat) : Bool := !(k == 13 && (Nat.ble 12 j && Nat.ble j 19))
def FX (μ μ' : sM) : Prop := kq qXt μ μ' ∧ ∀ k i j, rR μ' k i j = rR μ k i j
theorem FX_r : FX μ μ := ⟨kq_r, fun _ _ _ => rfl⟩
theorem FX_t {μ1 μ2 : sM} (h : FX μ μ1) (h' : FX μ1 μ2) : FX μ μ2 := ⟨kq_t h.1 h'.1, fun k i j => (h'.2 k i j).trans (h.2 k i j)⟩
/-- at the same TOKEN: its number i, m behind it, its kind K, number V, place s -/
def CS (μ ν : sM) (b : Nat → Int32) (n i m K : Nat) (V : Int64) (s : Nat) : Prop :=
  Txt ν b n ∧ (rI μ 7 0 7 = nI i ∧ rI μ 7 0 8 = nI (i + m + 1) ∧ i + m ≤ n ∧ rI μ 7 0 2 = 0 ∧ rI μ 7 0 3 = -1) ∧ (rI μ 7 0 4 = nI K ∧ rL μ 7 0 5 = V ∧ rI μ 37 0 i = nI s) ∧ K ≤ 32 ∧ TR K V ν ∧ rI ν 13 0 15 = nI s ∧ rI ν 13 0 12 = 0 ∧ ∃ e, (K < 31 → rI ν 13 0 16 = nI e ∧ e ≤ n) ∧ Ch μ b n m (i + 1) e
/-- both have found the same fault -/
def FS (μ ν : sM) : Prop := ∃ f s : Nat, 1 ≤ f ∧ f ≤ 7 ∧ rI μ 7 0 2 = nI f ∧ rI μ 7 0 3 = nI s ∧ rI ν 13 0 12 = nI f ∧ rI ν 13 0 13 = nI s
def TRc (K : Nat) (V : Int64) (ν ν' : sM) : Prop := TR K V ν → (∀ j, 14 ≤ j → j ≤ 18 → rI ν' 13 0 j = rI ν 13 0 j) → rL ν' 13 0 19 = rL ν 13 0 19 → TR K V ν'
theorem TR_c {ν' : sM} (h : TR K V ν) (a : ∀ j, 14 ≤ j → j ≤ 18 → rI ν' 13 0 j = rI ν 13 0 j) (c : rL ν' 13 0 19 = rL ν 13 0 19) : TR K V ν' := by
  unfold TR
  rw [a 14 (by omega) (by omega), a 17 (by omega) (by omega), a 18 (by omega) (by omega), c]
  exact h
/-- other cells changed -/
theorem CS_c {μ' ν' : sM} (h : CS μ ν b n i m K V s) (a : kq (fun k _ j => (k == 7 && (j == 2 || (j == 3 || (j == 4 || (j == 5 || (j == 7 || j == 8)))))) || (k == 36 || (k == 37 || k == 38))) μ μ') (c : kq (fun k _ j => k == 60 || (k == 13 && (j == 9 || (j == 12 || (Nat.ble 14 j && Nat.ble j 19))))) ν ν') : CS μ' ν' b n i m K V s := by
  obtain ⟨h1, ⟨h2, h3, h4⟩, ⟨h5, h6, h7⟩, h8, h9, h10, h11, e, h12, h13⟩ := h
  have g : ∀ j, 14 ≤ j → j ≤ 19 → rI ν' 13 0 j = rI ν 13 0 j ∧ rL ν' 13 0 j = rL ν 13 0 j := fun j x y => c 13 0 j (by simp [Nat.ble_eq_true_of_le x, Nat.ble_eq_true_of_le y])
  refine ⟨⟨?_, h1.2.1, fun j hj => ?_, h1.2.2.2⟩, ⟨?_, ?_, h4.1, by rw [(a 7 0 2 rfl).1]; exact h4.2.1, by rw [(a 7 0 3 rfl).1]; exact h4.2.2⟩, ⟨?_, ?_, ?_⟩, h8, TR_c h9 (fun j x y => (g j x (by omega)).1) (g 19 (by omega) (by omega)).2, ?_, ?_, e, fun z => ⟨?_, (h12 z).2⟩, Ch_c m (i + 1) e (fun j => ⟨(a 36 0 j rfl).1, (a 37 0 j rfl).1, (a 38 0 j rfl).2⟩) h13⟩
  · rw [(c 13 0 9 rfl).1]; exact h1.1
  · rw [(c 60 0 j rfl).1]; exact h1.2.2.1 j hj
  · rw [(a 7 0 7 rfl).1]; exact h2
  · rw [(a 7 0 8 rfl).1]; exact h3
  · rw [(a 7 0 4 rfl).1]; exact h5
  · rw [(a 7 0 5 rfl).2]; exact h6
  · rw [(a 37 0 i rfl).1]; exact h7
  · rw [(g 15 (by omega) (by omega)).1]; exact h10
  · rw [(c 13 0 12 rfl).1]; exact h11
  · rw [(g 16 (by omega) (by omega)).1]; exact (h12 z).1
theorem adv2 (h : CS μ ν b n i m K V s) (hK : K < 31) : ∃ μ' ν' m' K' V' s', X6_advance μ = some μ' ∧ X12_advance ν = some ν' ∧ CS μ' ν' b n (i + 1) m' K' V' s' ∧ FX μ μ' ∧ kq qMt ν ν' ∧ rI μ' 7 0 6 = rI μ 7 0 6 := by
  obtain ⟨h1, ⟨h2, h3, h4⟩, ⟨h5, h6, h7⟩, h8, h9, h10, h11, e, h12, h13⟩ := h
  have hn := h1.2.1
  obtain ⟨g1, g2⟩ := h12 hK
  cases m with
  | zero => exact absurd h13 (by show ¬ n < e; omega)
  | succ m =>
    obtain ⟨k1, K', V', s', e', hT, a1, a2, a3, hC⟩ := h13
    obtain ⟨t1, t2, t3, t4, t5⟩ := Tok_e hT g2
    obtain ⟨ν', e2, r1, r2, r3, r4⟩ := adv_e h1 g2 g1 hT
    have d9 : rI ν' 13 0 9 = rI ν 13 0 9 := (r4 13 0 9 rfl).1
    refine ⟨wL (wI (wI μ 7 0 7 (nI (i + 1))) 7 0 4 (nI K')) 7 0 5 V', ν', m, K', V', s', ?_, e2, ⟨⟨d9.trans h1.1, hn, fun j hj => ((r4 60 0 j rfl).1).trans (h1.2.2.1 j hj), h1.2.2.2⟩, ⟨?_, ?_, by omega, by rw [rI_wL, rI_j (by decide), rI_j (by decide)]; exact h4.2.1, by rw [rI_wL, rI_j (by decide), rI_j (by decide)]; exact h4.2.2⟩, ⟨?_, rL_s, ?_⟩, t1, r1, r2, ?_, e', fun z => ⟨r3 z, t5.mp z⟩, ?_⟩, ⟨?_, fun _ _ _ => rfl⟩, kq_m r4 (fun k x j hq => ?_), ?_⟩
    · unfold X6_advance
      rw [h2, h3, show nI (i + (m + 1) + 1) - 1 = nI (i + (m + 1)) from nI_pred _, if_neg (nI_ge (by omega) (by omega)), nI_1, if_pos (inb_nI (by omega) (by omega)), if_pos (inb_nI (by omega) (by omega)), ix_nI (by omega), a1, a3]
    · rw [rI_wL, rI_j (by decide), rI_s]
    · rw [rI_wL, rI_j (by decide), rI_j (by decide), h3]
      congr 1
      omega
    · rw [rI_wL, rI_s]
    · rw [rI_wL, rI_k (by decide), rI_k (by decide)]; exact a2
    · exact ((r4 13 0 12 rfl).1).trans h11
    · refine Ch_c m (i + 1 + 1) e' (fun j => ⟨?_, ?_, ?_⟩) hC
      · rw [rI_wL, rI_k (by decide), rI_k (by decide)]
      · rw [rI_wL, rI_k (by decide), rI_k (by decide)]
      · rw [rL_k (by decide), rL_wI, rL_wI]
    · exact kq_wL rfl (kq_wI rfl (kq_wI rfl kq_r))
    · unfold qMt at hq
      unfold qAv
      by_cases z : k = 13 ∧ 14 ≤ j ∧ j ≤ 19
      · exfalso
        simp [z.1, Nat.ble_eq_true_of_le (show 12 ≤ j by omega), Nat.ble_eq_true_of_le z.2.2] at hq
      · simp only [Bool.not_eq_true', Bool.and_eq_false_iff, beq_eq_false_iff_ne]
        by_cases zk : k = 13
        · right
          by_cases zj : 14 ≤ j
          · right
            apply Bool.eq_false_iff.mpr
            intro y
            exact z ⟨zk, zj, Nat.le_of_ble_eq_true y⟩
          · left
            apply Bool.eq_false_iff.mpr
            intro y
            exact zj (Nat.le_of_ble_eq_true y)
        · exact Or.inl zk
    · rw [rI_wL, rI_j (by decide), rI_j (by decide)]
theorem fail2 (h : CS μ ν b n i m K V s) {f : Nat} (f1 : 1 ≤ f) (f7 : f ≤ 7) : ∃ μ' ν', X6_fail (nI f) μ = some (0, μ') ∧ X12_fail (nI f) (rI ν 13 0 15) ν = some ν' ∧ FS μ' ν' ∧ FX μ μ' ∧ kq qMt ν ν' := by
  obtain ⟨h1, ⟨h2, h3, h4⟩, ⟨h5, h6, h7⟩, h8, h9, h10, h11, e, h12, h13⟩ := h
  have hn := h1.2.1
  refine ⟨wI (wI μ 7 0 2 (nI f)) 7 0 3 (nI s), wI (wI ν 13 0 12 (nI f)) 13 0 13 (nI s), ?_, ?_, ⟨f, s, f1, f7, ?_, rI_s, ?_, rI_s⟩, ⟨kq_wI rfl (kq_wI rfl kq_r), fun _ _ _ => rfl⟩, kq_wI rfl (kq_wI rfl kq_r)⟩
  · unfold X6_fail
    rw [h2, if_pos (inb_nI (by omega) (by omega)), ix_nI (by omega), h7]
  · unfold X12_fail
    rw [h11, if_pos (Int32.le_refl 0), h10]
  · rw [rI_j (by decide), rI_s]
  · rw [rI_j (by decide), rI_s]
theorem tr4 (h : TR K V ν) : rI ν 13 0 14 = 4 ↔ K = 31 := by
  rcases h with ⟨k, t, -⟩ | ⟨rfl, t, -⟩ | ⟨rfl, t, -⟩ | ⟨rfl, t⟩ | ⟨rfl, t⟩
  · rw [t]; exact ⟨fun z => absurd z (by decide +kernel), fun z => by omega⟩
  · rw [t]; exact ⟨fun z => absurd z (by decide +kernel), fun z => by omega⟩
  · rw [t]; exact ⟨fun z => absurd z (by decide +kernel), fun z => by omega⟩
  · exact ⟨fun _ => rfl, fun _ => t⟩
  · rw [t]; exact ⟨fun z => absurd z (by decide +kernel), fun z => by omega⟩
theorem amiss2 (h : CS μ ν b n i m K V s) : ∃ μ' ν', X6_failToStand μ = some (0, μ') ∧ X12_amiss ν = some ν' ∧ FS μ' ν' ∧ FX μ μ' ∧ kq qMt ν ν' := by
  have h5 := h.2.2.1.1
  have h8 := h.2.2.2.1
  have t := tr4 h.2.2.2.2.1
  unfold X6_failToStand X12_amiss X6_failToStand_J15 X12_amiss_J14
  by_cases c : K = 31
  · obtain ⟨μ', ν', e1, e2, r⟩ := fail2 h (f := 1) (by omega) (by omega)
    refine ⟨μ', ν', ?_, ?_, r⟩
    · rw [h5, c, if_pos (show nI 31 = 31 from rfl), show (1 : Int32) = nI 1 from rfl, e1, bI_s, if_pos (Or.inl rfl)]
    · rw [if_pos (t.mpr c), show (1 : Int32) = nI 1 from rfl, e2, bV_s]
  · obtain ⟨μ', ν', e1, e2, r⟩ := fail2 h (f := 2) (by omega) (by omega)
    refine ⟨μ', ν', ?_, ?_, r⟩
    · rw [h5, if_neg (show ¬ nI K = 31 from fun z => c ((nI_eq (b := 31) (by omega) (by omega)).mp z)), show (2 : Int32) = nI 2 from rfl, e1, bI_s, if_pos (Or.inl rfl)]
    · rw [if_neg (fun z => c (t.mp z)), show (2 : Int32) = nI 2 from rfl, e2, bV_s]
/-- what a step of reading gives: on to a later TOKEN, or the same fault -/
def PR (μ ν : sM) (b : Nat → Int32) (n i : Nat) (X : Option (Int32 × sM)) (M : Option sM) : Prop :=
  (∃ μ' ν' m' K' V' s', X = some (1, μ') ∧ M = some ν' ∧ CS μ' ν' b n (i + 1) m' K' V' s' ∧ FX μ μ' ∧ kq qMt ν ν') ∨ (∃ μ' ν', X = some (0, μ') ∧ M = some ν' ∧ FS μ' ν' ∧ FX μ μ' ∧ kq qMt ν ν')
theorem must1 (h : CS μ ν b n i m K V s) (x : Int32) : X12_must x ν = if x = 0 then bV (X12_amiss ν) (fun μ2 => some μ2) else bV (X12_advance ν) (fun μ4 => some μ4) := by
  unfold X12_must
  rw [h.2.2.2.2.2.2.1, if_pos (Int32.le_refl 0)]
theorem takeW (h : CS μ ν b n i m K V s) {k : Nat} (hk : k < 27) : (K = k ∧ ∃ μ' ν' m' K' V' s', X6_takeWord (nI k) μ = some (1, μ') ∧ X12_must (if K = k then 1 else 0) ν = some ν' ∧ CS μ' ν' b n (i + 1) m' K' V' s' ∧ FX μ μ' ∧ kq qMt ν ν') ∨ (∃ μ' ν', X6_takeWord (nI k) μ = some (0, μ') ∧ X12_must (if K = k then 1 else 0) ν = some ν' ∧ FS μ' ν' ∧ FX μ μ' ∧ kq qMt ν ν') := by
  have h5 := h.2.2.1.1
  have h8 := h.2.2.2.1
  unfold X6_takeWord
  rw [must1 h, h5]
  by_cases c : K = k
  · obtain ⟨μ', ν', m', K', V', s', e1, e2, C', f1, f2, -⟩ := adv2 h (by omega)
    refine Or.inl ⟨c, μ', ν', m', K', V', s', ?_, ?_, C', f1, f2⟩
    · rw [if_pos (by rw [c]), e1, bV_s]
    · rw [if_pos c, if_neg n10, e2, bV_s]
  · obtain ⟨μ', ν', e1, e2, r⟩ := amiss2 h
    refine Or.inr ⟨μ', ν', ?_, ?_, r⟩
    · rw [if_neg (fun z => c ((nI_eq (by omega) (by omega)).mp z)), e1, bI_s, if_pos (Or.inl rfl)]
    · rw [if_neg c, if_pos rfl, e2, bV_s]
theorem is_Sign (h : TR K V ν) {x : Nat} (hx : x = 59 ∨ x = 60 ∨ x = 61 ∨ x = 62) : X12_isSign (nI x) ν = some (if K = 30 ∧ V = lN x then 1 else 0, ν) := by
  unfold X12_isSign
  rcases h with ⟨k, t, -⟩ | ⟨rfl, t, -⟩ | ⟨rfl, t, hV, hs⟩ | ⟨rfl, t⟩ | ⟨rfl, t⟩
  · rw [t, if_neg (by decide +kernel), if_neg (by omega)]
  · rw [t, if_neg (by decide +kernel), if_neg (by omega)]
  · rw [t, if_pos rfl]
    by_cases c : rI ν 13 0 17 = nI x
    · rw [if_pos c, if_pos ⟨rfl, by rw [hV, c, nI_l (by omega)]⟩]
    · rw [if_neg c, if_neg]
      intro z
      apply c
      have y := z.2
      rw [hV, ← nI_l (show x < 2 ^ 31 by omega)] at y
      apply Int32.toInt_inj.mp
      have w := congrArg Int64.toInt y
      rw [tX, tX] at w
      exact w
  · rw [t, if_neg (by decide +kernel), if_neg (by omega)]
  · rw [t, if_neg (by decide +kernel), if_neg (by omega)]
theorem takeE (h : CS μ ν b n i m K V s) : PR μ ν b n i (X6_takeEnd μ) (bI (X12_isSign 59 ν) fun x ρ => X12_must x ρ) := by
  have h5 := h.2.2.1.1
  have h6 := h.2.2.1.2.1
  have h8 := h.2.2.2.1
  have iS := is_Sign h.2.2.2.2.1 (x := 59) (by omega)
  unfold X6_takeEnd X6_takeEnd_J20
  rw [show (59 : Int32) = nI 59 from rfl, iS, bI_s, must1 h, h5, h6]
  by_cases c : K = 30 ∧ V = lN 59
  · obtain ⟨μ', ν', m', K', V', s', e1, e2, C', f1, f2, -⟩ := adv2 h (by omega)
    refine Or.inl ⟨μ', ν', m', K', V', s', ?_, ?_, C', f1, f2⟩
    · rw [c.1, if_pos (show nI 30 = 30 from rfl), if_pos (show lg_cmp V 59 = 0 from (lgE V 59).mpr c.2), e1, bV_s]
    · rw [if_pos c, if_neg n10, e2, bV_s]
  · obtain ⟨μ', ν', e1, e2, r⟩ := amiss2 h
    refine Or.inr ⟨μ', ν', ?_, ?_, r⟩
    · rw [e1, bI_s, if_pos (Or.inl rfl)]
      by_cases d : K = 30
      · rw [d, if_pos (show nI 30 = 30 from rfl), if_neg (show ¬ lg_cmp V 59 = 0 from fun z => c ⟨d, (lgE V 59).mp z⟩)]
      · rw [if_neg (show ¬ nI K = 30 from fun z => d ((nI_eq (b := 30) (by omega) (by omega)).mp z))]
    · rw [if_neg c, if_pos rfl, e2, bV_s]
theorem tr2 (h : TR K V ν) : rI ν 13 0 14 = 2 ↔ K = 29 := by
  rcases h with ⟨k, t, -⟩ | ⟨rfl, t, -⟩ | ⟨rfl, t, -⟩ | ⟨rfl, t⟩ | ⟨rfl, t⟩
  · rw [t]; exact ⟨fun z => absurd z (by decide +kernel), fun z => by omega⟩
  · exact ⟨fun _ => rfl, fun _ => t⟩
  · rw [t]; exact ⟨fun z => absurd z (by decide +kernel), fun z => by omega⟩
  · rw [t]; exact ⟨fun z => absurd z (by decide +kernel), fun z => by omega⟩
  · rw [t]; exact ⟨fun z => absurd z (by decide +kernel), fun z => by omega⟩
theorem fs_pos {f : Nat} (f1 : 1 ≤ f) (f7 : f ≤ 7) : ¬ nI f ≤ 0 ∧ ¬ nI f = 0 ∧ 0 < nI f := ⟨nI_nle (by omega) (by omega), nI_ne0 (by omega) (by omega), nI_lt (a := 0) (by omega) (by omega)⟩
theorem takeN (h : CS μ ν b n i m K V s) {lo hi : Nat} (hl : lo ≤ 9999) (hh : hi ≤ 9999) : (∃ v μ' ν' m' K' V' s', lo ≤ v ∧ v ≤ hi ∧ X6_takeNumber (nI lo) (nI hi) μ = some (1, μ') ∧ X12_count (nI lo) (nI hi) ν = some (nI v, ν') ∧ rI μ' 7 0 6 = nI v ∧ CS μ' ν' b n (i + 1) m' K' V' s' ∧ FX μ μ' ∧ kq qMt ν ν') ∨ (∃ μ' ν', X6_takeNumber (nI lo) (nI hi) μ = some (0, μ') ∧ X12_count (nI lo) (nI hi) ν = some (0, ν') ∧ FS μ' ν' ∧ FX μ μ' ∧ kq qMt ν ν') := by
  have h5 := h.2.2.1.1
  have h6 := h.2.2.1.2.1
  have h8 := h.2.2.2.1
  have h11 := h.2.2.2.2.2.2.1
  have hT := h.2.2.2.2.1
  have t := tr2 hT
  unfold X6_takeNumber X12_count
  rw [h5, h11, if_pos rfl]
  by_cases c : K = 29
  · obtain ⟨v, v9, hV, h17⟩ : ∃ v, v ≤ 9999 ∧ V = lN v ∧ rI ν 13 0 17 = nI v := by
      rcases hT with ⟨k, -⟩ | ⟨-, -, z⟩ | ⟨z, -⟩ | ⟨z, -⟩ | ⟨z, -⟩
      · omega
      · exact z
      · omega
      · omega
      · omega
    rw [if_pos (t.mpr c), c, if_pos (show nI 29 = 29 from rfl)]
    unfold X12_count_J19 X12_count_J50 X6_takeNumber_J34
    rw [h11, if_pos rfl, h17, isIn_i, bI_s, tX, tX, nI_toInt (by omega), nI_toInt (by omega), nI_toInt (by omega), h6, hV, nI_l (by omega), nI_l (by omega)]
    have c1 : lg_cmp (lN v) (lN lo) < 0 ↔ v < lo := by rw [lg_cmp_lt, lN_lt (by omega) (by omega)]
    have c2 : lg_cmp (lN v) (lN hi) ≤ 0 ↔ v ≤ hi := by rw [lg_cmp_le, lN_le (by omega) (by omega)]
    by_cases d : lo ≤ v ∧ v ≤ hi
    · obtain ⟨μ', ν', m', K', V', s', e1, e2, C', f1, f2, g6⟩ := adv2 (μ := wI μ 7 0 6 (nI v)) (CS_c h (kq_wI rfl kq_r) kq_r) (by omega)
      refine Or.inl ⟨v, μ', ν', m', K', V', s', d.1, d.2, ?_, ?_, ?_, C', FX_t ⟨kq_wI rfl kq_r, fun _ _ _ => rfl⟩ f1, f2⟩
      · rw [if_neg (fun z => by have := c1.mp z; omega), if_pos (c2.mpr d.2), lN_i, e1, bV_s]
      · rw [if_pos (show ((lo : Nat) : Int) ≤ ((v : Nat) : Int) ∧ ((v : Nat) : Int) ≤ ((hi : Nat) : Int) by omega), if_neg n10, h11, if_pos (Int32.le_refl 0), e2, bV_s, h17]
      · rw [g6, rI_s]
    · obtain ⟨μ', ν', e1, e2, r⟩ := fail2 h (f := 4) (by omega) (by omega)
      obtain ⟨f, s', f1, f7, -, -, q1, -⟩ := r.1
      have fp := fs_pos f1 f7
      refine Or.inr ⟨μ', ν', ?_, ?_, r⟩
      · rw [show (4 : Int32) = nI 4 from rfl, e1, bI_s, if_pos (Or.inl rfl)]
        by_cases d1 : v < lo
        · rw [if_pos (c1.mpr d1)]
        · rw [if_neg (fun z => d1 (c1.mp z)), if_neg (fun z => d ⟨by omega, c2.mp z⟩)]
      · rw [if_neg (show ¬ (((lo : Nat) : Int) ≤ ((v : Nat) : Int) ∧ ((v : Nat) : Int) ≤ ((hi : Nat) : Int)) by omega), if_pos rfl, show (4 : Int32) = nI 4 from rfl, e2, bV_s, q1, if_neg fp.1]
  · obtain ⟨μ', ν', e1, e2, r⟩ := amiss2 h
    obtain ⟨f, s', f1, f7, -, -, q1, -⟩ := r.1
    have fp := fs_pos f1 f7
    refine Or.inr ⟨μ', ν', ?_, ?_, r⟩
    · rw [if_neg (show ¬ nI K = 29 from fun z => c ((nI_eq (b := 29) (by omega) (by omega)).mp z)), e1, bI_s, if_pos (Or.inl rfl)]
    · rw [if_neg (fun z => c (t.mp z)), e2, bV_s]
      unfold X12_count_J19 X12_count_J50
      rw [q1, if_neg fp.2.1, if_neg fp.1]
/-! behind a fault the reference does nothing -/
theorem b_must {f : Nat} (h : rI ν 13 0 12 = nI f) (f1 : 1 ≤ f) (f7 : f ≤ 7) (x : Int32) : X12_must x ν = some ν := by
  unfold X12_must
  rw [h, if_neg (fs_pos f1 f7).1]
theorem b_count {f : Nat} (h : rI ν 13 0 12 = nI f) (f1 : 1 ≤ f) (f7 : f ≤ 7) (x y : Int32) : X12_count x y ν = some (0, ν) := by
  unfold X12_count X12_count_J19 X12_count_J50
  rw [h, if_neg (fs_pos f1 f7).2.1, if_neg (fs_pos f1 f7).2.1, if_neg (fs_pos f1 f7).1]
theorem b_behind {f : Nat} (h : rI ν 13 0 12 = nI f) (f1 : 1 ≤ f) (f7 : f ≤ 7) (z x y : Int32) : X12_behindWord z x y ν = some (0, ν) := by
  unfold X12_behindWord
  rw [b_must h f1 f7, bV_s, b_count h f1 f7, bI_s]
theorem b_perhaps {f : Nat} (h : rI ν 13 0 12 = nI f) (f1 : 1 ≤ f) (f7 : f ≤ 7) (z : Int32) : X12_perhaps z ν = some (0, ν) := by
  unfold X12_perhaps
  rw [h, if_pos (fs_pos f1 f7).2.2]
theorem b_told {f : Nat} (h : rI ν 13 0 12 = nI f) (f1 : 1 ≤ f) (f7 : f ≤ 7) (x y : Int32) : X12_readTold x y ν = some (0, ν) := by
  unfold X12_readTold X12_readTold_J18
  rw [h, if_neg (fs_pos f1 f7).2.1, if_neg (fs_pos f1 f7).1]
end C98m
