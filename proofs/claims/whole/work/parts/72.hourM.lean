/-! 72: an HOUR of the reference, loop by loop; f is its row c, p what passed, q what was flooded -/
theorem l16 (i : Nat) : (16 : Int32) + nI i = nI (16 + i) := nI_add 16 i
theorem l22 (i : Nat) : (22 : Int32) + nI i = nI (22 + i) := nI_add 22 i
theorem l28 (i : Nat) : (28 : Int32) + nI i = nI (28 + i) := nI_add 28 i
theorem l34 (i : Nat) : (34 : Int32) + nI i = nI (34 + i) := nI_add 34 i
theorem l40 (i : Nat) : (40 : Int32) + nI i = nI (40 + i) := nI_add 40 i
theorem l46 (i : Nat) : (46 : Int32) + nI i = nI (46 + i) := nI_add 46 i
theorem l52 (i : Nat) : (52 : Int32) + nI i = nI (52 + i) := nI_add 52 i
theorem l58 (i : Nat) : (58 : Int32) + nI i = nI (58 + i) := nI_add 58 i
theorem l64 (i : Nat) : (64 : Int32) + nI i = nI (64 + i) := nI_add 64 i
theorem l70 (i : Nat) : (70 : Int32) + nI i = nI (70 + i) := nI_add 70 i
theorem wI_asC (μ : sM) (k i j : Nat) (v : Int32) : wI μ k i j v = sC μ k i (upd (rI μ k i) j v) := by
  have h := wI_sC μ k i j v (rI μ k i)
  rw [sC_id μ k i _ (fun _ => rfl)] at h
  exact h
theorem upd_s {f : Nat → Int32} {k : Nat} {x : Int32} : upd f k x k = x := if_pos rfl
theorem upd_n {f : Nat → Int32} {k j : Nat} {x : Int32} (h : j ≠ k) : upd f k x j = f j := if_neg h
theorem passOf_e (i : Nat) (h : i < 6) (μ : sM) : X12_passOf (nI i) μ = some (imn (rI μ 61 0 (22 + i)) (rI μ 61 0 (28 + i)), μ) := by
  unfold X12_passOf
  rw [l22, l28, if_pos (inb_nI (by omega) (by omega)), if_pos (inb_nI (by omega) (by omega)), ix_nI (by omega), ix_nI (by omega)]
/-- the first loop: what passes -/
theorem hourM_l2 (n : Nat) (hn : n ≤ 6) : ∀ (k i fu : Nat) (μ : sM), i + k = n → k < fu → rI μ 61 0 0 = nI n →
    X12_goesHour_L2 fu (nI i) μ = X12_goesHour_L2 (fu - k) (nI n) (sC μ 65 0 (fun j => if i ≤ j ∧ j < n then imn (rI μ 61 0 (22 + j)) (rI μ 61 0 (28 + j)) else rI μ 65 0 j))
  | 0, i, fu + 1, μ, h, _, hc => by
    rw [show i = n by omega, sC_id _ _ _ _ (fun j => if_neg (by omega))]
    rfl
  | k + 1, i, fu + 1, μ, h, hf, hc => by
    have e0 : X12_goesHour_L2 (fu + 1) (nI i) μ = X12_goesHour_L2 fu (nI (i + 1)) (wI μ 65 0 i (imn (rI μ 61 0 (22 + i)) (rI μ 61 0 (28 + i)))) := by
      rw [X12_goesHour_L2]
      rw [hc, if_neg (nI_ge (by omega) (by omega)), passOf_e i (by omega), bI_s, if_pos (inb_nI (by omega) (by omega)), ix_nI (by omega), nI_1]
    rw [e0, hourM_l2 n hn k (i + 1) fu _ (by omega) (by omega) (by rw [rI_k (by decide)]; exact hc), sC_wI]
    rw [show fu + 1 - (k + 1) = fu - k by omega]
    congr 1
    apply sC_c
    intro j
    rw [rI_k (by decide), rI_k (by decide)]
    by_cases e : j = i
    · subst e
      rw [if_neg (by omega), if_pos ⟨Nat.le_refl j, by omega⟩, rI_s]
    · rw [rI_j e]
      by_cases q : i + 1 ≤ j ∧ j < n
      · rw [if_pos q, if_pos ⟨by omega, q.2⟩]
      · rw [if_neg q, if_neg (by omega)]
theorem flowsDown_l (n : Nat) (hn : n ≤ 6) : ∀ (k i fu : Nat) (v : Int32) (μ : sM), i + k = n → k < fu → rI μ 61 0 0 = nI n →
    X12_flowsDown_L21 fu v (nI i) μ = some (wI (sC μ 61 0 (fun j => if 28 + i ≤ j ∧ j < 28 + n then rI μ 61 0 j + ((if j = 28 + i then v else rI μ 65 0 (j - 29)) - rI μ 65 0 (j - 28)) else rI μ 61 0 j)) 61 0 10 (rI μ 61 0 10 + (if k = 0 then v else rI μ 65 0 (n - 1))))
  | 0, i, fu + 1, v, μ, h, _, hc => by
    unfold X12_flowsDown_L21
    rw [hc, if_pos (nI_le (by omega) (by omega)), sC_id _ _ _ _ (fun j => if_neg (by omega)), if_pos rfl]
  | k + 1, i, fu + 1, v, μ, h, hf, hc => by
    unfold X12_flowsDown_L21
    have hb : inb (nI i) 6 = true := inb_nI (by omega) (by omega)
    have hb2 : inb (nI (28 + i)) 1740 = true := inb_nI (by omega) (by omega)
    rw [hc, if_neg (nI_ge (by omega) (by omega)), l28, if_pos hb2, if_pos hb, if_pos hb2, if_pos hb, ix_nI (by omega), ix_nI (by omega), nI_1]
    rw [flowsDown_l n hn k (i + 1) fu _ _ (by omega) (by omega) (by rw [rI_j (by omega)]; exact hc), sC_wI]
    have ev : (if k = 0 then rI μ 65 0 i else rI (wI μ 61 0 (28 + i) (rI μ 61 0 (28 + i) + (v - rI μ 65 0 i))) 65 0 (n - 1)) = (if k + 1 = 0 then v else rI μ 65 0 (n - 1)) := by
      rw [if_neg (Nat.succ_ne_zero k), rI_k (by decide)]
      by_cases e : k = 0
      · rw [if_pos e, show n - 1 = i by omega]
      · rw [if_neg e]
    rw [ev, rI_j (show (10 : Nat) ≠ 28 + i by omega)]
    congr 3
    funext j
    simp only [rI_k (show (65 : Nat) ≠ 61 by decide)]
    by_cases e : j = 28 + i
    · subst e
      rw [if_neg (by omega), if_pos ⟨Nat.le_refl _, by omega⟩, if_pos rfl, rI_s, show 28 + i - 28 = i by omega]
    · rw [rI_j e]
      by_cases q : 28 + (i + 1) ≤ j ∧ j < 28 + n
      · rw [if_pos q, if_pos (show 28 + i ≤ j ∧ j < 28 + n from ⟨by omega, q.2⟩), if_neg e]
        by_cases e2 : j = 28 + (i + 1)
        · rw [if_pos e2, show j - 29 = i by omega]
        · rw [if_neg e2]
      · rw [if_neg q, if_neg (by omega)]
theorem flowsUp_l (n : Nat) (hn : n ≤ 6) : ∀ (k fu : Nat) (v : Int32) (μ : sM), k ≤ n → k < fu →
    X12_flowsUp_L29 fu v (nI k - 1) μ = some (wI (sC μ 61 0 (fun j => if 28 ≤ j ∧ j < 28 + k then rI μ 61 0 j + ((if j + 1 = 28 + k then v else rI μ 65 0 (j - 27)) - rI μ 65 0 (j - 28)) else rI μ 61 0 j)) 61 0 12 (rI μ 61 0 12 + (if k = 0 then v else rI μ 65 0 0)))
  | 0, fu + 1, v, μ, h, _ => by
    unfold X12_flowsUp_L29
    rw [if_pos (by decide +kernel), sC_id _ _ _ _ (fun j => if_neg (by omega)), if_pos rfl]
  | k + 1, fu + 1, v, μ, h, hf => by
    unfold X12_flowsUp_L29
    have hb : inb (nI k) 6 = true := inb_nI (by omega) (by omega)
    have hb2 : inb (nI (28 + k)) 1740 = true := inb_nI (by omega) (by omega)
    rw [nI_pred, if_neg (nI_pos (by omega)), l28, if_pos hb2, if_pos hb, if_pos hb2, if_pos hb, ix_nI (by omega), ix_nI (by omega)]
    rw [show nI k + (-1) = nI k - 1 from (Int32.sub_eq_add_neg (nI k) 1).symm]
    rw [flowsUp_l n hn k fu _ _ (by omega) (by omega), sC_wI]
    have ev : (if k = 0 then rI μ 65 0 k else rI (wI μ 61 0 (28 + k) (rI μ 61 0 (28 + k) + (v - rI μ 65 0 k))) 65 0 0) = (if k + 1 = 0 then v else rI μ 65 0 0) := by
      rw [if_neg (Nat.succ_ne_zero k), rI_k (by decide)]
      by_cases e : k = 0
      · rw [if_pos e, e]
      · rw [if_neg e]
    rw [ev, rI_j (show (12 : Nat) ≠ 28 + k by omega)]
    congr 3
    funext j
    simp only [rI_k (show (65 : Nat) ≠ 61 by decide)]
    by_cases e : j = 28 + k
    · subst e
      rw [if_neg (by omega), if_pos ⟨by omega, by omega⟩, if_pos (by omega), rI_s, show 28 + k - 28 = k by omega]
    · rw [rI_j e]
      by_cases q : 28 ≤ j ∧ j < 28 + k
      · rw [if_pos q, if_pos (show 28 ≤ j ∧ j < 28 + (k + 1) from ⟨q.1, by omega⟩), if_neg (show ¬ j + 1 = 28 + (k + 1) by omega)]
        by_cases e2 : j + 1 = 28 + k
        · rw [if_pos e2, show j - 27 = k by omega]
        · rw [if_neg e2]
      · rw [if_neg q, if_neg (by omega)]
