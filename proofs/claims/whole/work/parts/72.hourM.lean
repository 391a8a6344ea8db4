/-! 72: an HOUR of the reference, loop by loop; f is its row c, p what passed, q what was flooded -/
theorem l16 (i : Nat) : (16 : Int32) + nI i = nI (16 + i) := nI_add 16 i
theorem l22 (i : Nat) : (22 : Int32) + nI i = nI (22 + i) := nI_add 22 i
theorem l28 (i : Nat) : (28 : Int32) + nI i = nI (28 + i) := nI_add 28 i
theorem l34 (i : Nat) : (34 : Int32) + nI i = nI (34 + i) := nI_add 34 i
theorem l40 (i : Nat) : (40 : Int32) + nI i = nI (40 + i) := nI_add 40 i
theorem l46 (i : Nat) : (46 : Int32) + nI i = nI (46 + i) := nI_add 46 i
theorem l52 (i : Nat) : (52 : Int32) + nI i = nI (52 + i) := nI_add 52 i
theorem l58 (i : Nat) : (58 : Int32) + nI i = nI (58 + i) := nI_add 58 i
theorem l64 (i : Nat) : (64 : Int32) + nI i = nI (64 + i) := nI_add 64 i
theorem l70 (i : Nat) : (70 : Int32) + nI i = nI (70 + i) := nI_add 70 i
theorem wI_asC (μ : sM) (k i j : Nat) (v : Int32) : wI μ k i j v = sC μ k i (upd (rI μ k i) j v) := by
  have h := wI_sC μ k i j v (rI μ k i)
  rw [sC_id μ k i _ (fun _ => rfl)] at h
  exact h
theorem upd_s {f : Nat → Int32} {k : Nat} {x : Int32} : upd f k x k = x := if_pos rfl
theorem upd_n {f : Nat → Int32} {k j : Nat} {x : Int32} (h : j ≠ k) : upd f k x j = f j := if_neg h
theorem passOf_e (i : Nat) (h : i < 6) (μ : sM) : X12_passOf (nI i) μ = some (imn (rI μ 61 0 (22 + i)) (rI μ 61 0 (28 + i)), μ) := by
  unfold X12_passOf
  rw [l22, l28, if_pos (inb_nI (by omega) (by omega)), if_pos (inb_nI (by omega) (by omega)), ix_nI (by omega), ix_nI (by omega)]
/-- the first loop: what passes -/
theorem hourM_l2 (n : Nat) (hn : n ≤ 6) : ∀ (k i fu : Nat) (μ : sM), i + k = n → k < fu → rI μ 61 0 0 = nI n →
    X12_goesHour_L2 fu (nI i) μ = X12_goesHour_L2 (fu - k) (nI n) (sC μ 65 0 (fun j => if i ≤ j ∧ j < n then imn (rI μ 61 0 (22 + j)) (rI μ 61 0 (28 + j)) else rI μ 65 0 j))
  | 0, i, fu + 1, μ, h, _, hc => by
    rw [show i = n by omega, sC_id _ _ _ _ (fun j => if_neg (by omega))]
    rfl
  | k + 1, i, fu + 1, μ, h, hf, hc => by
    have e0 : X12_goesHour_L2 (fu + 1) (nI i) μ = X12_goesHour_L2 fu (nI (i + 1)) (wI μ 65 0 i (imn (rI μ 61 0 (22 + i)) (rI μ 61 0 (28 + i)))) := by
      rw [X12_goesHour_L2]
      rw [hc, if_neg (nI_ge (by omega) (by omega)), passOf_e i (by omega), bI_s, if_pos (inb_nI (by omega) (by omega)), ix_nI (by omega), nI_1]
    rw [e0, hourM_l2 n hn k (i + 1) fu _ (by omega) (by omega) (by rw [rI_k (by decide)]; exact hc), sC_wI]
    rw [show fu + 1 - (k + 1) = fu - k by omega]
    congr 1
    apply sC_c
    intro j
    rw [rI_k (by decide), rI_k (by decide)]
    by_cases e : j = i
    · subst e
      rw [if_neg (by omega), if_pos ⟨Nat.le_refl j, by omega⟩, rI_s]
    · rw [rI_j e]
      by_cases q : i + 1 ≤ j ∧ j < n
      · rw [if_pos q, if_pos ⟨by omega, q.2⟩]
      · rw [if_neg q, if_neg (by omega)]
theorem flowsDown_l (n : Nat) (hn : n ≤ 6) : ∀ (k i fu : Nat) (v : Int32) (μ : sM), i + k = n → k < fu → rI μ 61 0 0 = nI n →
    X12_flowsDown_L21 fu v (nI i) μ = some (wI (sC μ 61 0 (fun j => if 28 + i ≤ j ∧ j < 28 + n then rI μ 61 0 j + ((if j = 28 + i then v else rI μ 65 0 (j - 29)) - rI μ 65 0 (j - 28)) else rI μ 61 0 j)) 61 0 10 (rI μ 61 0 10 + (if k = 0 then v else rI μ 65 0 (n - 1))))
  | 0, i, fu + 1, v, μ, h, _, hc => by
    unfold X12_flowsDown_L21
    rw [hc, if_pos (nI_le (by omega) (by omega)), sC_id _ _ _ _ (fun j => if_neg (by omega)), if_pos rfl]
  | k + 1, i, fu + 1, v, μ, h, hf, hc => by
    unfold X12_flowsDown_L21
    have hb : inb (nI i) 6 = true := inb_nI (by omega) (by omega)
    have hb2 : inb (nI (28 + i)) 1740 = true := inb_nI (by omega) (by omega)
    rw [hc, if_neg (nI_ge (by omega) (by omega)), l28, if_pos hb2, if_pos hb, if_pos hb2, if_pos hb, ix_nI (by omega), ix_nI (by omega), nI_1]
    rw [flowsDown_l n hn k (i + 1) fu _ _ (by omega) (by omega) (by rw [rI_j (by omega)]; exact hc), sC_wI]
    have ev : (if k = 0 then rI μ 65 0 i else rI (wI μ 61 0 (28 + i) (rI μ 61 0 (28 + i) + (v - rI μ 65 0 i))) 65 0 (n - 1)) = (if k + 1 = 0 then v else rI μ 65 0 (n - 1)) := by
      rw [if_neg (Nat.succ_ne_zero k), rI_k (by decide)]
      by_cases e : k = 0
      · rw [if_pos e, show n - 1 = i by omega]
      · rw [if_neg e]
    rw [ev, rI_j (show (10 : Nat) ≠ 28 + i by omega)]
    congr 3
    funext j
    simp only [rI_k (show (65 : Nat) ≠ 61 by decide)]
    by_cases e : j = 28 + i
    · subst e
      rw [if_neg (by omega), if_pos ⟨Nat.le_refl _, by omega⟩, if_pos rfl, rI_s, show 28 + i - 28 = i by omega]
    · rw [rI_j e]
      by_cases q : 28 + (i + 1) ≤ j ∧ j < 28 + n
      · rw [if_pos q, if_pos (show 28 + i ≤ j ∧ j < 28 + n from ⟨by omega, q.2⟩), if_neg e]
        by_cases e2 : j = 28 + (i + 1)
        · rw [if_pos e2, show j - 29 = i by omega]
        · rw [if_neg e2]
      · rw [if_neg q, if_neg (by omega)]
theorem flowsUp_l (n : Nat) (hn : n ≤ 6) : ∀ (k fu : Nat) (v : Int32) (μ : sM), k ≤ n → k < fu →
    X12_flowsUp_L29 fu v (nI k - 1) μ = some (wI (sC μ 61 0 (fun j => if 28 ≤ j ∧ j < 28 + k then rI μ 61 0 j + ((if j + 1 = 28 + k then v else rI μ 65 0 (j - 27)) - rI μ 65 0 (j - 28)) else rI μ 61 0 j)) 61 0 12 (rI μ 61 0 12 + (if k = 0 then v else rI μ 65 0 0)))
  | 0, fu + 1, v, μ, h, _ => by
    unfold X12_flowsUp_L29
    rw [if_pos (by decide +kernel), sC_id _ _ _ _ (fun j => if_neg (by omega)), if_pos rfl]
  | k + 1, fu + 1, v, μ, h, hf => by
    unfold X12_flowsUp_L29
    have hb : inb (nI k) 6 = true := inb_nI (by omega) (by omega)
    have hb2 : inb (nI (28 + k)) 1740 = true := inb_nI (by omega) (by omega)
    rw [nI_pred, if_neg (nI_pos (by omega)), l28, if_pos hb2, if_pos hb, if_pos hb2, if_pos hb, ix_nI (by omega), ix_nI (by omega)]
    rw [show nI k + (-1) = nI k - 1 from (Int32.sub_eq_add_neg (nI k) 1).symm]
    rw [flowsUp_l n hn k fu _ _ (by omega) (by omega), sC_wI]
    have ev : (if k = 0 then rI μ 65 0 k else rI (wI μ 61 0 (28 + k) (rI μ 61 0 (28 + k) + (v - rI μ 65 0 k))) 65 0 0) = (if k + 1 = 0 then v else rI μ 65 0 0) := by
      rw [if_neg (Nat.succ_ne_zero k), rI_k (by decide)]
      by_cases e : k = 0
      · rw [if_pos e, e]
      · rw [if_neg e]
    rw [ev, rI_j (show (12 : Nat) ≠ 28 + k by omega)]
    congr 3
    funext j
    simp only [rI_k (show (65 : Nat) ≠ 61 by decide)]
    by_cases e : j = 28 + k
    · subst e
      rw [if_neg (by omega), if_pos ⟨by omega, by omega⟩, if_pos (by omega), rI_s, show 28 + k - 28 = k by omega]
    · rw [rI_j e]
      by_cases q : 28 ≤ j ∧ j < 28 + k
      · rw [if_pos q, if_pos (show 28 ≤ j ∧ j < 28 + (k + 1) from ⟨q.1, by omega⟩), if_neg (show ¬ j + 1 = 28 + (k + 1) by omega)]
        by_cases e2 : j + 1 = 28 + k
        · rw [if_pos e2, show j - 27 = k by omega]
        · rw [if_neg e2]
      · rw [if_neg q, if_neg (by omega)]
/-- the drops; what floods -/
abbrev drM (μ : sM) : Int32 := rI μ 61 0 7 * rI μ 61 0 4
abbrev flM (μ : sM) (j : Nat) : Int32 := imx 0 ((rI μ 61 0 (28 + j) + drM μ) - rI μ 61 0 (16 + j))
theorem rain_l (n : Nat) (hn : n ≤ 6) : ∀ (k i fu : Nat) (μ : sM), i + k = n → k < fu → rI μ 61 0 0 = nI n →
    X12_rainsAndFloods_L2 fu (nI i) μ = some (sC (sC μ 66 0 (fun j => if i ≤ j ∧ j < n then flM μ j else rI μ 66 0 j)) 61 0 (fun j => if j = 15 then rI μ 61 0 15 + sgm (fun _ => drM μ) i k else if j = 13 then rI μ 61 0 13 + sgm (flM μ) i k else if 28 + i ≤ j ∧ j < 28 + n then rI μ 61 0 j + (drM μ - flM μ (j - 28)) else rI μ 61 0 j))
  | 0, i, fu + 1, μ, h, _, hc => by
    unfold X12_rainsAndFloods_L2
    have e1 : sC μ 66 0 (fun j => if i ≤ j ∧ j < n then flM μ j else rI μ 66 0 j) = μ := sC_id _ _ _ _ (fun j => if_neg (by omega))
    rw [hc, if_pos (nI_le (by omega) (by omega)), e1, sC_id]
    intro j
    unfold sgm
    rw [Int32.add_zero, Int32.add_zero]
    by_cases a : j = 15
    · rw [if_pos a, a]
    · rw [if_neg a]
      by_cases b : j = 13
      · rw [if_pos b, b]
      · rw [if_neg b, if_neg (by omega)]
  | k + 1, i, fu + 1, μ, h, hf, hc => by
    unfold X12_rainsAndFloods_L2
    have hb : inb (nI i) 6 = true := inb_nI (by omega) (by omega)
    have hb2 : inb (nI (28 + i)) 1740 = true := inb_nI (by omega) (by omega)
    have hb3 : inb (nI (16 + i)) 1740 = true := inb_nI (by omega) (by omega)
    rw [hc, if_neg (nI_ge (by omega) (by omega)), l28, l16, if_pos hb2, if_pos hb3, if_pos hb, if_pos hb2, if_pos hb, if_pos hb2, if_pos hb, ix_nI (by omega), ix_nI (by omega), ix_nI (by omega), nI_1]
    rw [rI_j (show 28 + i ≠ 15 by omega), rI_j (show 16 + i ≠ 15 by omega), rI_s]
    generalize hν : wI (wI (wI (wI μ 61 0 15 (rI μ 61 0 15 + rI μ 61 0 7 * rI μ 61 0 4)) 66 0 i (imx 0 (rI μ 61 0 (28 + i) + rI μ 61 0 7 * rI μ 61 0 4 - rI μ 61 0 (16 + i)))) 61 0 (28 + i) (rI μ 61 0 (28 + i) + (rI μ 61 0 7 * rI μ 61 0 4 - imx 0 (rI μ 61 0 (28 + i) + rI μ 61 0 7 * rI μ 61 0 4 - rI μ 61 0 (16 + i))))) 61 0 13 _ = ν
    have r61 : ∀ j, rI ν 61 0 j = if j = 13 then rI μ 61 0 13 + flM μ i else if j = 28 + i then rI μ 61 0 (28 + i) + (drM μ - flM μ i) else if j = 15 then rI μ 61 0 15 + drM μ else rI μ 61 0 j := by
      intro j
      rw [← hν, rI_wI]
      by_cases a : j = 13
      · rw [if_pos ⟨rfl, a, rfl⟩, if_pos a]
        rw [rI_j (show (13 : Nat) ≠ 28 + i by omega), rI_k (by decide), rI_j (by decide)]
      · rw [if_neg (fun z => a z.2.1), if_neg a, rI_wI]
        by_cases b : j = 28 + i
        · rw [if_pos ⟨rfl, b, rfl⟩, if_pos b]
        · rw [if_neg (fun z => b z.2.1), if_neg b, rI_k (by decide), rI_wI]
          by_cases d : j = 15
          · rw [if_pos ⟨rfl, d, rfl⟩, if_pos d]
          · rw [if_neg (fun z => d z.2.1), if_neg d]
    have r66 : ∀ j, rI ν 66 0 j = if j = i then flM μ i else rI μ 66 0 j := by
      intro j
      rw [← hν, rI_k (by decide), rI_k (by decide), rI_wI]
      by_cases a : j = i
      · rw [if_pos ⟨rfl, a, rfl⟩, if_pos a]
      · rw [if_neg (fun z => a z.2.1), if_neg a, rI_k (by decide)]
    have hd : drM ν = drM μ := by
      show rI ν 61 0 7 * rI ν 61 0 4 = _
      rw [r61, r61, if_neg (by decide), if_neg (by omega), if_neg (by decide), if_neg (by decide), if_neg (by omega), if_neg (by decide)]
    have hfl : ∀ j, j ≠ i → j < 6 → flM ν j = flM μ j := by
      intro j hj h6
      show imx 0 ((rI ν 61 0 (28 + j) + drM ν) - rI ν 61 0 (16 + j)) = _
      rw [hd, r61, r61, if_neg (by omega), if_neg (by omega), if_neg (by omega), if_neg (by omega), if_neg (by omega), if_neg (by omega)]
    have h0 : rI ν 61 0 0 = nI n := by rw [r61, if_neg (by decide), if_neg (by omega), if_neg (by decide)]; exact hc
    rw [rain_l n hn k (i + 1) fu ν (by omega) (by omega) h0]
    rw [sgm_c (g := flM ν) (h := flM μ) k (i + 1) (fun j a b => hfl j (by omega) (by omega)), hd]
    have hs : ∀ (F G : Nat → Int32), sC (sC ν 66 0 F) 61 0 G = sC (sC μ 66 0 F) 61 0 G := by
      intro F G
      rw [← hν]
      rw [sC_cm _ _ _ _ _ (by decide), sC_wI, sC_wI, sC_wI' _ _ _ _ _ _ (by decide), sC_wI, sC_wI, sC_cm _ _ _ _ _ (by decide)]
    rw [hs]
    congr 1
    congr 1
    · apply sC_c
      intro j
      rw [r66]
      by_cases e : j = i
      · subst e
        rw [if_neg (by omega), if_pos rfl, if_pos ⟨Nat.le_refl j, by omega⟩]
      · rw [if_neg e]
        by_cases q : i + 1 ≤ j ∧ j < n
        · rw [if_pos q, if_pos ⟨by omega, q.2⟩, hfl j e (by omega)]
        · rw [if_neg q, if_neg (by omega)]
    · funext j
      by_cases a : j = 15
      · subst a
        rw [if_pos rfl, if_pos rfl, r61 15, if_neg (by decide), if_neg (by omega), if_pos rfl]
        show _ = _ + (drM μ + _)
        rw [Int32.add_assoc]
      · rw [if_neg a, if_neg a]
        by_cases b : j = 13
        · subst b
          rw [if_pos rfl, if_pos rfl, r61 13, if_pos rfl]
          show _ = _ + (flM μ i + _)
          rw [Int32.add_assoc]
        · rw [if_neg b, if_neg b]
          by_cases e : j = 28 + i
          · subst e
            rw [if_neg (by omega), r61 (28 + i), if_neg (by omega), if_pos rfl, if_pos (by omega), show 28 + i - 28 = i by omega]
          · have rj : rI ν 61 0 j = rI μ 61 0 j := by rw [r61 j, if_neg b, if_neg e, if_neg a]
            by_cases q : 28 + (i + 1) ≤ j ∧ j < 28 + n
            · rw [if_pos q, if_pos (show 28 + i ≤ j ∧ j < 28 + n from ⟨by omega, q.2⟩), hfl (j - 28) (by omega) (by omega), rj]
            · rw [if_neg q, if_neg (by omega), rj]
theorem rain_e {μ : sM} {n : Nat} (hn : n ≤ 6) (hc : rI μ 61 0 0 = nI n) : X12_rainsAndFloods μ = some (sC (sC μ 66 0 (fun j => if j < n then flM μ j else rI μ 66 0 j)) 61 0 (fun j => if j = 15 then rI μ 61 0 15 + sgm (fun _ => drM μ) 0 n else if j = 13 then rI μ 61 0 13 + sgm (flM μ) 0 n else if 28 ≤ j ∧ j < 28 + n then rI μ 61 0 j + (drM μ - flM μ (j - 28)) else rI μ 61 0 j)) := by
  unfold X12_rainsAndFloods
  have h := rain_l n hn n 0 fuN μ (by omega) (fuN_6 (by omega)) hc
  rw [nI_0] at h
  rw [h]
  simp only [Nat.zero_le, true_and, Nat.add_zero]
/-- the last loop: mills -/
abbrev grM (μ : sM) (j : Nat) : Prop := rI μ 61 0 (40 + j) ≤ rI μ 65 0 (ix (rI μ 61 0 (34 + j)))
abbrev gM1 (μ : sM) (j : Nat) : Int32 := if grM μ j then 1 else 0
theorem hourM_l58 (n : Nat) (hn : n ≤ 6) : ∀ (k i fu : Nat) (v : Int32) (μ : sM), i + k = n → k < fu → rI μ 61 0 1 = nI n → (∀ j, j < n → inb (rI μ 61 0 (34 + j)) 6 = true) →
    X12_goesHour_L58 fu v (nI i) μ = X12_goesHour_L58 (fu - k) (v + sgm (gM1 μ) i k) (nI n) (sC μ 61 0 (fun j => if 46 + i ≤ j ∧ j < 46 + n ∧ grM μ (j - 46) then rI μ 61 0 j + 1 else rI μ 61 0 j))
  | 0, i, fu + 1, v, μ, h, _, hc, _ => by
    rw [show i = n by omega, sC_id _ _ _ _ (fun j => if_neg (by omega))]
    unfold sgm
    rw [Int32.add_zero]
    rfl
  | k + 1, i, fu + 1, v, μ, h, hf, hc, ha => by
    have hb : ∀ a, a ≤ 46 → inb (nI (a + i)) 1740 = true := fun a h => inb_nI (by omega) (by omega)
    by_cases g : grM μ i
    · have e0 : X12_goesHour_L58 (fu + 1) v (nI i) μ = X12_goesHour_L58 fu (v + 1) (nI (i + 1)) (wI μ 61 0 (46 + i) (rI μ 61 0 (46 + i) + 1)) := by
        rw [X12_goesHour_L58]
        rw [hc, if_neg (nI_ge (by omega) (by omega)), l34, l40, l46, if_pos (hb 34 (by omega)), ix_nI (by omega), if_pos (ha i (by omega)), if_pos (hb 40 (by omega)), ix_nI (by omega), if_pos g, if_pos (hb 46 (by omega)), if_pos (hb 46 (by omega)), ix_nI (by omega)]
        unfold X12_goesHour_J113
        rw [nI_1]
      have r34 : ∀ j, j < 6 → ∀ a, a = 34 ∨ a = 40 → rI (wI μ 61 0 (46 + i) (rI μ 61 0 (46 + i) + 1)) 61 0 (a + j) = rI μ 61 0 (a + j) := fun j hj a ha => rI_j (by omega)
      rw [e0, hourM_l58 n hn k (i + 1) fu _ _ (by omega) (by omega) (by rw [rI_j (by omega)]; exact hc) (fun j hj => by rw [r34 j (by omega) 34 (Or.inl rfl)]; exact ha j hj), sC_wI]
      have eg : ∀ j, j < 6 → (grM (wI μ 61 0 (46 + i) (rI μ 61 0 (46 + i) + 1)) j ↔ grM μ j) := by
        intro j hj
        show rI _ 61 0 (40 + j) ≤ rI _ 65 0 (ix (rI _ 61 0 (34 + j))) ↔ _
        rw [r34 j hj 40 (Or.inr rfl), r34 j hj 34 (Or.inl rfl), rI_k (by decide)]
      rw [sgm_c (h := gM1 μ) k (i + 1) (fun j a b => by
        show (if grM _ j then (1 : Int32) else 0) = _
        simp only [eg j (by omega)])]
      rw [show fu + 1 - (k + 1) = fu - k by omega]
      congr 1
      · show v + 1 + _ = v + (gM1 μ i + _)
        rw [show gM1 μ i = 1 from if_pos g, Int32.add_assoc]
      · apply sC_c
        intro j
        by_cases e : j = 46 + i
        · subst e
          rw [if_neg (by omega), if_pos ⟨Nat.le_refl _, by omega, by rw [show 46 + i - 46 = i by omega]; exact g⟩, rI_s]
        · rw [rI_j e]
          by_cases q : 46 + (i + 1) ≤ j ∧ j < 46 + n ∧ grM (wI μ 61 0 (46 + i) (rI μ 61 0 (46 + i) + 1)) (j - 46)
          · rw [if_pos q, if_pos ⟨by omega, q.2.1, (eg _ (by omega)).mp q.2.2⟩]
          · rw [if_neg q, if_neg (fun z => q ⟨by omega, z.2.1, (eg _ (by omega)).mpr z.2.2⟩)]
    · have e0 : X12_goesHour_L58 (fu + 1) v (nI i) μ = X12_goesHour_L58 fu v (nI (i + 1)) μ := by
        rw [X12_goesHour_L58]
        rw [hc, if_neg (nI_ge (by omega) (by omega)), l34, l40, if_pos (hb 34 (by omega)), ix_nI (by omega), if_pos (ha i (by omega)), if_pos (hb 40 (by omega)), ix_nI (by omega), if_neg g]
        unfold X12_goesHour_J113
        rw [nI_1]
      rw [e0, hourM_l58 n hn k (i + 1) fu _ _ (by omega) (by omega) hc ha]
      rw [show fu + 1 - (k + 1) = fu - k by omega]
      congr 1
      · show v + _ = v + (gM1 μ i + _)
        rw [show gM1 μ i = 0 from if_neg g, Int32.zero_add]
      · apply sC_c
        intro j
        by_cases q : 46 + (i + 1) ≤ j ∧ j < 46 + n ∧ grM μ (j - 46)
        · rw [if_pos q, if_pos ⟨by omega, q.2⟩]
        · rw [if_neg q, if_neg (fun z => q ⟨by
            rcases Nat.lt_or_ge (46 + i) j with w | w
            · omega
            · exact absurd (show grM μ i by rw [show i = j - 46 by omega]; exact z.2.2) g, z.2⟩)]
