/-! 71: an HOUR of the class's river, loop by loop -/
/-- a cell's ints, all at once -/
def sC (μ : sM) (k i : Nat) (F : Nat → Int32) : sM := (fun a b c => if a = k ∧ b = i then F c else μ.1 a b c, μ.2)
theorem rI_sC (μ : sM) (k i : Nat) (F : Nat → Int32) (a b c : Nat) : rI (sC μ k i F) a b c = if a = k ∧ b = i then F c else rI μ a b c := rfl
theorem rL_sC (μ : sM) (k i : Nat) (F : Nat → Int32) (a b c : Nat) : rL (sC μ k i F) a b c = rL μ a b c := rfl
theorem rR_sC (μ : sM) (k i : Nat) (F : Nat → Int32) (a b c : Nat) : rR (sC μ k i F) a b c = rR μ a b c := rfl
theorem sC_s {μ : sM} {k i : Nat} {F : Nat → Int32} {c : Nat} : rI (sC μ k i F) k i c = F c := if_pos ⟨rfl, rfl⟩
theorem sC_k {μ : sM} {k i : Nat} {F : Nat → Int32} {a b c : Nat} (h : a ≠ k) : rI (sC μ k i F) a b c = rI μ a b c := if_neg (fun q => h q.1)
theorem sC_id (μ : sM) (k i : Nat) (F : Nat → Int32) (h : ∀ j, F j = rI μ k i j) : sC μ k i F = μ := by
  refine sM_ext (fun a b c => ?_) (fun _ _ _ => rfl) (fun _ _ _ => rfl)
  rw [rI_sC]
  by_cases q : a = k ∧ b = i
  · rw [if_pos q, q.1, q.2, h]
  · rw [if_neg q]
theorem sC_wI (μ : sM) (k i j : Nat) (v : Int32) (F : Nat → Int32) : sC (wI μ k i j v) k i F = sC μ k i F := by
  refine sM_ext (fun a b c => ?_) (fun _ _ _ => rfl) (fun _ _ _ => rfl)
  rw [rI_sC, rI_sC]
  by_cases q : a = k ∧ b = i
  · rw [if_pos q, if_pos q]
  · rw [if_neg q, if_neg q, rI_wI, if_neg (fun z => q ⟨z.1, z.2.2⟩)]
theorem wI_sC (μ : sM) (k i j : Nat) (v : Int32) (F : Nat → Int32) : wI (sC μ k i F) k i j v = sC μ k i (upd F j v) := by
  refine sM_ext (fun a b c => ?_) (fun _ _ _ => rfl) (fun _ _ _ => rfl)
  rw [rI_sC, rI_wI, rI_sC]
  unfold upd
  by_cases q : a = k ∧ b = i
  · rw [if_pos q, if_pos q]
    by_cases h : c = j
    · rw [if_pos ⟨q.1, h, q.2⟩, if_pos h]
    · rw [if_neg (fun z => h z.2.1), if_neg h]
  · rw [if_neg q, if_neg q, if_neg (fun z => q ⟨z.1, z.2.2⟩)]
theorem sC_sC (μ : sM) (k i : Nat) (F G : Nat → Int32) : sC (sC μ k i F) k i G = sC μ k i G := by
  refine sM_ext (fun a b c => ?_) (fun _ _ _ => rfl) (fun _ _ _ => rfl)
  rw [rI_sC, rI_sC, rI_sC]
  by_cases q : a = k ∧ b = i
  · rw [if_pos q, if_pos q]
  · rw [if_neg q, if_neg q, if_neg q]
theorem sC_cm (μ : sM) {k k' : Nat} (i i' : Nat) (F G : Nat → Int32) (h : k ≠ k') : sC (sC μ k i F) k' i' G = sC (sC μ k' i' G) k i F := by
  refine sM_ext (fun a b c => ?_) (fun _ _ _ => rfl) (fun _ _ _ => rfl)
  rw [rI_sC, rI_sC, rI_sC, rI_sC]
  by_cases q : a = k ∧ b = i
  · rw [if_pos q, if_neg (fun z => h (q.1.symm.trans z.1)), if_pos q]
  · rw [if_neg q, if_neg q]
theorem sC_wI' (μ : sM) {k k' : Nat} (i i' j : Nat) (v : Int32) (F : Nat → Int32) (h : k ≠ k') : sC (wI μ k i j v) k' i' F = wI (sC μ k' i' F) k i j v := by
  refine sM_ext (fun a b c => ?_) (fun _ _ _ => rfl) (fun _ _ _ => rfl)
  rw [rI_sC, rI_wI, rI_wI, rI_sC]
  by_cases q : a = k' ∧ b = i'
  · rw [if_pos q, if_neg (fun z => h (z.1.symm.trans q.1)), if_pos q]
  · rw [if_neg q, if_neg q]
theorem sC_wL (μ : sM) (k i j : Nat) (v : Int64) (k' i' : Nat) (F : Nat → Int32) : sC (wL μ k i j v) k' i' F = wL (sC μ k' i' F) k i j v := rfl
theorem sC_c (μ : sM) (k i : Nat) {F G : Nat → Int32} (h : ∀ j, F j = G j) : sC μ k i F = sC μ k i G := by rw [funext h]
/-- k numbers of g from i on, added -/
def sgm (g : Nat → Int32) : Nat → Nat → Int32
  | _, 0 => 0
  | i, k + 1 => g i + sgm g (i + 1) k
theorem sgm_c {g h : Nat → Int32} : ∀ (k i : Nat), (∀ j, i ≤ j → j < i + k → g j = h j) → sgm g i k = sgm h i k
  | 0, _, _ => rfl
  | k + 1, i, e => by
    unfold sgm
    rw [e i (Nat.le_refl i) (by omega), sgm_c k (i + 1) (fun j a b => e j (by omega) (by omega))]
theorem fuN_6 {k : Nat} (h : k ≤ 1000000) : k < fuN := by
  unfold fuN
  omega
theorem letPass_l (r n : Nat) (hn : n ≤ 6) : ∀ (k i fu : Nat) (μ : sM), i + k = n → k < fu → rI μ 4 r 0 = nI n →
    X3_letPass_L2 fu r (nI i) μ = some (sC μ 32 r (fun j => if i ≤ j ∧ j < n then imn (rI μ 31 r j) (rI μ 30 r j) else rI μ 32 r j))
  | 0, i, fu + 1, μ, h, _, hc => by
    unfold X3_letPass_L2
    rw [hc, if_pos (nI_le (by omega) (by omega)), sC_id]
    intro j
    rw [if_neg (by omega)]
  | k + 1, i, fu + 1, μ, h, hf, hc => by
    unfold X3_letPass_L2
    rw [hc, if_neg (nI_ge (by omega) (by omega)), if_pos (inb_nI (by omega) (by omega)), if_pos (inb_nI (by omega) (by omega)), if_pos (inb_nI (by omega) (by omega)), ix_nI (by omega), nI_1]
    rw [letPass_l r n hn k (i + 1) fu _ (by omega) (by omega) (by rw [rI_k (by decide)]; exact hc), sC_wI]
    congr 1
    apply sC_c
    intro j
    rw [rI_k (by decide), rI_k (by decide)]
    by_cases e : j = i
    · subst e
      rw [if_neg (by omega), if_pos ⟨Nat.le_refl j, by omega⟩, rI_s]
    · rw [rI_j e]
      by_cases q : i + 1 ≤ j ∧ j < n
      · rw [if_pos q, if_pos ⟨by omega, q.2⟩]
      · rw [if_neg q, if_neg (by omega)]
theorem letPass_e {μ : sM} {r n : Nat} (hn : n ≤ 6) (hc : rI μ 4 r 0 = nI n) : X3_letPass r μ = some (sC μ 32 r (fun j => if j < n then imn (rI μ 31 r j) (rI μ 30 r j) else rI μ 32 r j)) := by
  unfold X3_letPass
  have h := letPass_l r n hn n 0 fuN μ (by omega) (fuN_6 (by omega)) hc
  rw [nI_0] at h
  rw [h]
  congr 1
  apply sC_c
  intro j
  simp only [Nat.zero_le, true_and]
theorem addEach_l (r n : Nat) (hn : n ≤ 6) (x : Int32) : ∀ (k i fu : Nat) (μ : sM), i + k = n → k < fu → rI μ 4 r 0 = nI n →
    X3_addEach_L2 fu r x (nI i) μ = some (sC μ 31 r (fun j => if i ≤ j ∧ j < n then rI μ 31 r j + x else rI μ 31 r j))
  | 0, i, fu + 1, μ, h, _, hc => by
    unfold X3_addEach_L2
    rw [hc, if_pos (nI_le (by omega) (by omega)), sC_id]
    intro j
    rw [if_neg (by omega)]
  | k + 1, i, fu + 1, μ, h, hf, hc => by
    unfold X3_addEach_L2
    rw [hc, if_neg (nI_ge (by omega) (by omega)), if_pos (inb_nI (by omega) (by omega)), if_pos (inb_nI (by omega) (by omega)), ix_nI (by omega), nI_1]
    rw [addEach_l r n hn x k (i + 1) fu _ (by omega) (by omega) (by rw [rI_k (by decide)]; exact hc), sC_wI]
    congr 1
    apply sC_c
    intro j
    by_cases e : j = i
    · subst e
      rw [if_neg (by omega), if_pos ⟨Nat.le_refl j, by omega⟩, rI_s]
    · rw [rI_j e]
      by_cases q : i + 1 ≤ j ∧ j < n
      · rw [if_pos q, if_pos ⟨by omega, q.2⟩]
      · rw [if_neg q, if_neg (by omega)]
theorem addEach_e {μ : sM} {r n : Nat} (x : Int32) (hn : n ≤ 6) (hc : rI μ 4 r 0 = nI n) : X3_addEach r x μ = some (sC μ 31 r (fun j => if j < n then rI μ 31 r j + x else rI μ 31 r j)) := by
  unfold X3_addEach
  have h := addEach_l r n hn x n 0 fuN μ (by omega) (fuN_6 (by omega)) hc
  rw [nI_0] at h
  rw [h]
  congr 1
  apply sC_c
  intro j
  simp only [Nat.zero_le, true_and]
/-- what floods at a reach -/
abbrev spl (μ : sM) (r j : Nat) : Int32 := imx 0 (rI μ 31 r j - rI μ 29 r j)
theorem spill_l (r n : Nat) (hn : n ≤ 6) : ∀ (k i fu : Nat) (v : Int32) (μ : sM), i + k = n → k < fu → rI μ 4 r 0 = nI n →
    X3_spill_L4 fu r v (nI i) μ = some (v + sgm (spl μ r) i k, sC (sC μ 33 r (fun j => if i ≤ j ∧ j < n then spl μ r j else rI μ 33 r j)) 31 r (fun j => if i ≤ j ∧ j < n then rI μ 31 r j - spl μ r j else rI μ 31 r j))
  | 0, i, fu + 1, v, μ, h, _, hc => by
    unfold X3_spill_L4
    rw [hc, if_pos (nI_le (by omega) (by omega))]
    have e1 : sC μ 33 r (fun j => if i ≤ j ∧ j < n then spl μ r j else rI μ 33 r j) = μ := sC_id _ _ _ _ (fun j => if_neg (by omega))
    rw [e1, sC_id _ _ _ _ (fun j => if_neg (by omega))]
    unfold sgm
    rw [Int32.add_zero]
  | k + 1, i, fu + 1, v, μ, h, hf, hc => by
    unfold X3_spill_L4
    have hb : inb (nI i) 6 = true := inb_nI (by omega) (by omega)
    rw [hc, if_neg (nI_ge (by omega) (by omega)), if_pos hb, if_pos hb, if_pos hb, if_pos hb, if_pos hb, if_pos hb, if_pos hb, ix_nI (by omega), nI_1, rI_s]
    rw [spill_l r n hn k (i + 1) fu _ _ (by omega) (by omega) (by rw [rI_k (by decide), rI_k (by decide)]; exact hc)]
    have es : ∀ j, j ≠ i → spl (wI (wI μ 33 r i (imx 0 (rI μ 31 r i - rI μ 29 r i))) 31 r i (rI μ 31 r i - imx 0 (rI μ 31 r i - rI μ 29 r i))) r j = spl μ r j := by
      intro j hj
      show imx 0 (rI _ 31 r j - rI _ 29 r j) = _
      rw [rI_j hj, rI_k (by decide), rI_k (by decide), rI_k (by decide)]
    rw [sgm_c (h := spl μ r) k (i + 1) (fun j a b => es j (by omega))]
    congr 1
    refine Prod.ext ?_ ?_
    · show v + spl μ r i + sgm (spl μ r) (i + 1) k = v + (spl μ r i + sgm (spl μ r) (i + 1) k)
      rw [Int32.add_assoc]
    · show sC (sC _ 33 r _) 31 r _ = _
      rw [sC_cm _ _ _ _ _ (by decide), sC_wI, sC_cm _ _ _ _ _ (by decide), sC_wI]
      congr 1
      · apply sC_c
        intro j
        by_cases e : j = i
        · subst e
          rw [if_neg (by omega), if_pos ⟨Nat.le_refl j, by omega⟩, rI_k (by decide), rI_s]
        · rw [es j e, rI_k (by decide), rI_j e]
          by_cases q : i + 1 ≤ j ∧ j < n
          · rw [if_pos q, if_pos ⟨by omega, q.2⟩]
          · rw [if_neg q, if_neg (by omega)]
      · funext j
        by_cases e : j = i
        · subst e
          rw [if_neg (by omega), if_pos ⟨Nat.le_refl j, by omega⟩, rI_s]
        · rw [es j e, rI_j e, rI_k (by decide)]
          by_cases q : i + 1 ≤ j ∧ j < n
          · rw [if_pos q, if_pos ⟨by omega, q.2⟩]
          · rw [if_neg q, if_neg (by omega)]
theorem spill_e {μ : sM} {r n : Nat} (hn : n ≤ 6) (hc : rI μ 4 r 0 = nI n) : X3_spill r μ = some (sgm (spl μ r) 0 n, sC (sC μ 33 r (fun j => if j < n then spl μ r j else rI μ 33 r j)) 31 r (fun j => if j < n then rI μ 31 r j - spl μ r j else rI μ 31 r j)) := by
  unfold X3_spill
  have h := spill_l r n hn n 0 fuN 0 μ (by omega) (fuN_6 (by omega)) hc
  rw [nI_0] at h
  rw [h]
  simp only [Nat.zero_le, true_and, Int32.zero_add]
theorem runDown_l (r n : Nat) (hn : n ≤ 6) : ∀ (k i fu : Nat) (v : Int32) (μ : sM), i + k = n → k < fu → rI μ 4 r 0 = nI n →
    X4_runDown_L21 fu r v (nI i) μ = some (wL (sC μ 31 r (fun j => if i ≤ j ∧ j < n then rI μ 31 r j + ((if j = i then v else rI μ 32 r (j - 1)) - rI μ 32 r j) else rI μ 31 r j)) 34 r 0 (rL μ 34 r 0 + (if k = 0 then v else rI μ 32 r (n - 1)).toInt64))
  | 0, i, fu + 1, v, μ, h, _, hc => by
    unfold X4_runDown_L21
    rw [hc, if_pos (nI_le (by omega) (by omega)), sC_id _ _ _ _ (fun j => if_neg (by omega)), if_pos rfl]
  | k + 1, i, fu + 1, v, μ, h, hf, hc => by
    unfold X4_runDown_L21
    have hb : inb (nI i) 6 = true := inb_nI (by omega) (by omega)
    rw [hc, if_neg (nI_ge (by omega) (by omega)), if_pos hb, if_pos hb, if_pos hb, if_pos hb, ix_nI (by omega), nI_1]
    rw [runDown_l r n hn k (i + 1) fu _ _ (by omega) (by omega) (by rw [rI_k (by decide)]; exact hc), sC_wI]
    have ev : (if k = 0 then rI μ 32 r i else rI (wI μ 31 r i (rI μ 31 r i + (v - rI μ 32 r i))) 32 r (n - 1)) = (if k + 1 = 0 then v else rI μ 32 r (n - 1)) := by
      rw [if_neg (Nat.succ_ne_zero k), rI_k (by decide)]
      by_cases e : k = 0
      · rw [if_pos e, show n - 1 = i by omega]
      · rw [if_neg e]
    rw [ev, rL_wI]
    congr 3
    funext j
    simp only [rI_k (show (32 : Nat) ≠ 31 by decide)]
    by_cases e : j = i
    · subst e
      rw [if_neg (by omega), if_pos ⟨Nat.le_refl j, by omega⟩, if_pos rfl, rI_s]
    · rw [rI_j e]
      by_cases q : i + 1 ≤ j ∧ j < n
      · rw [if_pos q, if_pos (show i ≤ j ∧ j < n from ⟨by omega, q.2⟩), if_neg e]
        by_cases e2 : j = i + 1
        · rw [if_pos e2, e2]
          rfl
        · rw [if_neg e2]
      · rw [if_neg q, if_neg (by omega)]
theorem runDown_e {μ : sM} {r n : Nat} (hn : n ≤ 6) (hc : rI μ 4 r 0 = nI n) : X4_runDown r μ = some (wL (wL (sC μ 31 r (fun j => if j < n then rI μ 31 r j + ((if j = 0 then rI μ 5 r 0 else rI μ 32 r (j - 1)) - rI μ 32 r j) else rI μ 31 r j)) 34 r 4 (rL μ 34 r 4 + (rI μ 5 r 0).toInt64)) 34 r 0 (rL μ 34 r 0 + (if n = 0 then rI μ 5 r 0 else rI μ 32 r (n - 1)).toInt64)) := by
  unfold X4_runDown
  have h := runDown_l r n hn n 0 fuN (rI μ 5 r 0) (wL μ 34 r 4 (rL μ 34 r 4 + (rI μ 5 r 0).toInt64)) (by omega) (fuN_6 (by omega)) (by rw [rI_wL]; exact hc)
  rw [nI_0] at h
  rw [h]
  simp only [Nat.zero_le, true_and, rI_wL, rL_j (show (0 : Nat) ≠ 4 by decide)]
  rfl
theorem runUp_l (r n : Nat) (hn : n ≤ 6) : ∀ (k fu : Nat) (v : Int32) (μ : sM), k ≤ n → k < fu →
    X4_runUp_L30 fu r v (nI k - 1) μ = some (wL (sC μ 31 r (fun j => if j < k then rI μ 31 r j + ((if j + 1 = k then v else rI μ 32 r (j + 1)) - rI μ 32 r j) else rI μ 31 r j)) 34 r 2 (rL μ 34 r 2 + (if k = 0 then v else rI μ 32 r 0).toInt64))
  | 0, fu + 1, v, μ, h, _ => by
    unfold X4_runUp_L30
    rw [if_pos (by decide +kernel), sC_id _ _ _ _ (fun j => if_neg (by omega)), if_pos rfl]
  | k + 1, fu + 1, v, μ, h, hf => by
    unfold X4_runUp_L30
    have hb : inb (nI k) 6 = true := inb_nI (by omega) (by omega)
    rw [nI_pred, if_neg (nI_pos (by omega)), if_pos hb, if_pos hb, if_pos hb, if_pos hb, ix_nI (by omega)]
    rw [show nI k + (-1) = nI k - 1 from (Int32.sub_eq_add_neg (nI k) 1).symm]
    rw [runUp_l r n hn k fu _ _ (by omega) (by omega), sC_wI]
    have ev : (if k = 0 then rI μ 32 r k else rI (wI μ 31 r k (rI μ 31 r k + (v - rI μ 32 r k))) 32 r 0) = (if k + 1 = 0 then v else rI μ 32 r 0) := by
      rw [if_neg (Nat.succ_ne_zero k), rI_k (by decide)]
      by_cases e : k = 0
      · rw [if_pos e, e]
      · rw [if_neg e]
    rw [ev, rL_wI]
    congr 3
    funext j
    simp only [rI_k (show (32 : Nat) ≠ 31 by decide)]
    by_cases e : j = k
    · subst e
      rw [if_neg (by omega), if_pos (show j < j + 1 by omega), if_pos rfl, rI_s]
    · rw [rI_j e]
      by_cases q : j < k
      · rw [if_pos q, if_pos (show j < k + 1 by omega), if_neg (show ¬ j + 1 = k + 1 by omega)]
        by_cases e2 : j + 1 = k
        · rw [if_pos e2, e2]
        · rw [if_neg e2]
      · rw [if_neg q, if_neg (by omega)]
theorem runUp_e {μ : sM} {r n : Nat} (hn : n ≤ 6) (hc : rI μ 4 r 0 = nI n) : X4_runUp r μ = some (wL (wL (sC μ 31 r (fun j => if j < n then rI μ 31 r j + ((if j + 1 = n then -(rI μ 5 r 0) else rI μ 32 r (j + 1)) - rI μ 32 r j) else rI μ 31 r j)) 34 r 1 (rL μ 34 r 1 - (rI μ 5 r 0).toInt64)) 34 r 2 (rL μ 34 r 2 + (if n = 0 then -(rI μ 5 r 0) else rI μ 32 r 0).toInt64)) := by
  unfold X4_runUp
  rw [hc]
  rw [runUp_l r n hn n fuN (-(rI μ 5 r 0)) (wL μ 34 r 1 (rL μ 34 r 1 - (rI μ 5 r 0).toInt64)) (Nat.le_refl n) (fuN_6 (by omega))]
  simp only [rI_wL, rL_j (show (2 : Nat) ≠ 1 by decide)]
  rfl
/-- whether the mill i grinds, by what passed -/
abbrev grd (μ : sM) (r i : Nat) : Prop := rI μ 26 r i ≤ rI μ 32 r (ix (rI μ 25 r i))
abbrev gr1 (μ : sM) (r i : Nat) : Int32 := if grd μ r i then 1 else 0
theorem grind_l (r n : Nat) (hn : n ≤ 6) : ∀ (k i fu : Nat) (v : Int32) (μ : sM), i + k = n → k < fu → rI μ 3 r 0 = nI n → (∀ j, j < n → inb (rI μ 25 r j) 6 = true) →
    X2_grind_32_L4 fu r r v (nI i) μ = some (v + sgm (gr1 μ r) i k, sC μ 27 r (fun j => if i ≤ j ∧ j < n ∧ grd μ r j then rI μ 27 r j + 1 else rI μ 27 r j))
  | 0, i, fu + 1, v, μ, h, _, hc, _ => by
    unfold X2_grind_32_L4
    rw [hc, if_pos (nI_le (by omega) (by omega)), sC_id _ _ _ _ (fun j => if_neg (by omega))]
    unfold sgm
    rw [Int32.add_zero]
  | k + 1, i, fu + 1, v, μ, h, hf, hc, ha => by
    unfold X2_grind_32_L4
    have hb : inb (nI i) 6 = true := inb_nI (by omega) (by omega)
    rw [hc, if_neg (nI_ge (by omega) (by omega)), if_pos hb, ix_nI (by omega), if_pos (ha i (by omega)), if_pos hb]
    unfold X2_grind_32_J42
    by_cases g : grd μ r i
    · rw [if_neg (Int32.not_lt.mpr g), if_pos hb, if_pos hb, nI_1]
      rw [grind_l r n hn k (i + 1) fu _ _ (by omega) (by omega) (by rw [rI_k (by decide)]; exact hc) (fun j hj => by rw [rI_k (by decide)]; exact ha j hj), sC_wI]
      have eg : ∀ j, grd (wI μ 27 r i (rI μ 27 r i + 1)) r j ↔ grd μ r j := by
        intro j
        show rI _ 26 r j ≤ rI _ 32 r (ix (rI _ 25 r j)) ↔ _
        rw [rI_k (by decide), rI_k (by decide), rI_k (by decide)]
      have e1 : sgm (gr1 (wI μ 27 r i (rI μ 27 r i + 1)) r) (i + 1) k = sgm (gr1 μ r) (i + 1) k := sgm_c k (i + 1) (fun j _ _ => by
        show (if grd _ r j then (1 : Int32) else 0) = _
        simp only [eg])
      rw [e1]
      congr 1
      refine Prod.ext ?_ ?_
      · show v + 1 + _ = v + (gr1 μ r i + _)
        rw [show gr1 μ r i = 1 from if_pos g, Int32.add_assoc]
      · apply sC_c
        intro j
        simp only [eg]
        by_cases e : j = i
        · subst e
          rw [if_neg (by omega), if_pos ⟨Nat.le_refl j, by omega, g⟩, rI_s]
        · rw [rI_j e]
          by_cases q : i + 1 ≤ j ∧ j < n ∧ grd μ r j
          · rw [if_pos q, if_pos ⟨by omega, q.2⟩]
          · rw [if_neg q, if_neg (fun z => q ⟨by omega, z.2⟩)]
    · rw [if_pos (Int32.not_le.mp g), nI_1]
      rw [grind_l r n hn k (i + 1) fu _ _ (by omega) (by omega) hc ha]
      congr 1
      refine Prod.ext ?_ ?_
      · show v + _ = v + (gr1 μ r i + _)
        rw [show gr1 μ r i = 0 from if_neg g, Int32.zero_add]
      · apply sC_c
        intro j
        by_cases q : i + 1 ≤ j ∧ j < n ∧ grd μ r j
        · rw [if_pos q, if_pos ⟨by omega, q.2⟩]
        · rw [if_neg q, if_neg (fun z => q ⟨by
            rcases Nat.lt_or_ge i j with w | w
            · exact w
            · exact absurd (show grd μ r i by rw [show i = j by omega]; exact z.2.2) g, z.2⟩)]
theorem grind_e {μ : sM} {r n : Nat} (hn : n ≤ 6) (hc : rI μ 3 r 0 = nI n) (ha : ∀ j, j < n → inb (rI μ 25 r j) 6 = true) : X2_grind_32 r r μ = some (sgm (gr1 μ r) 0 n, sC μ 27 r (fun j => if j < n ∧ grd μ r j then rI μ 27 r j + 1 else rI μ 27 r j)) := by
  unfold X2_grind_32
  have h := grind_l r n hn n 0 fuN 0 μ (by omega) (fuN_6 (by omega)) hc ha
  rw [nI_0] at h
  rw [h]
  simp only [Nat.zero_le, true_and, Int32.zero_add]
/-- what the spring slackens by, and to -/
abbrev slk (sl oil : Int32) : Int32 := if oil ≤ 0 then sl else (sl + 1) / 2
abbrev slt (t b : Int32) : Int32 := if t < 0 then imn 0 (t + b) else imx 0 (t - b)
theorem slacken_e (r : Nat) (μ : sM) : X4_slacken r μ = some (wI (wI μ 5 r 0 (slt (rI μ 5 r 0) (slk (rI μ 5 r 1) (rI μ 5 r 5)))) 5 r 5 (imx 0 (rI μ 5 r 5 - 1))) := by
  unfold X4_slacken X4_slacken_J22 X4_slacken_J54
  by_cases h : rI μ 5 r 5 ≤ 0
  · rw [if_pos h, show slk (rI μ 5 r 1) (rI μ 5 r 5) = rI μ 5 r 1 from if_pos h]
    by_cases h2 : rI μ 5 r 0 < 0
    · rw [if_pos h2, show slt (rI μ 5 r 0) (rI μ 5 r 1) = _ from if_pos h2]
    · rw [if_neg h2, show slt (rI μ 5 r 0) (rI μ 5 r 1) = _ from if_neg h2]
  · rw [if_neg h, show slk (rI μ 5 r 1) (rI μ 5 r 5) = _ from if_neg h]
    by_cases h2 : rI μ 5 r 0 < 0
    · rw [if_pos h2, show slt (rI μ 5 r 0) _ = _ from if_pos h2]
    · rw [if_neg h2, show slt (rI μ 5 r 0) _ = _ from if_neg h2]
