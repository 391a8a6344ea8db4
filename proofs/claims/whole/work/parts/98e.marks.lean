/-! 98e: MARKS -/
section C98e
variable {B : Int} {μ ν : sM}
def wk (k : Nat) : Bool := k == 9 || (Nat.ble 43 k && Nat.ble k 48)
def nW (w k i : Nat) : Bool := !(wk k && i == w)
theorem nW_s {w k : Nat} (h : wk k = true) : nW w k w = false := by
  unfold nW
  rw [h]
  simp
theorem cp_o60 {n : Nat} (h : n ≤ 60) : cpo 0 0 (nI n) 60 60 = true := by
  unfold cpo
  rw [nI_clamp (show n < 2 ^ 31 by omega)]
  exact decide_eq_true ⟨by decide +kernel, by decide +kernel, nI_pos (by omega), by rw [show (0 : Int32).toNatClampNeg = 0 from by decide +kernel]; omega, by rw [show (0 : Int32).toNatClampNeg = 0 from by decide +kernel]; omega⟩
abbrev C8 (μ : sM) (a w n : Nat) : sM := cI (cI (cI (cI (cI (cI (wI (wI (wI μ 9 a 0 (rI μ 9 w 0)) 9 a 1 (rI μ 9 w 1)) 9 a 2 (nI n)) 43 w 0 43 a 0 n) 44 w 0 44 a 0 n) 45 w 0 45 a 0 n) 46 w 0 46 a 0 n) 47 w 0 47 a 0 n) 48 w 0 48 a 0 n
theorem cp8 {a w n : Nat} (h0 : rI μ 9 w 0 = 0 ∨ rI μ 9 w 0 = 1) (h2 : rI μ 9 w 2 = nI n) (hn : n ≤ 60) : X8_copyFrom a w μ = some (C8 μ a w n) := by
  unfold X8_copyFrom
  rw [if_pos h0, rI_s, h2, if_pos (cp_o60 hn), if_pos (cp_o60 hn), if_pos (cp_o60 hn), if_pos (cp_o60 hn), if_pos (cp_o60 hn), if_pos (cp_o60 hn), x0_, ix_nI (by omega)]
theorem cp8_k {a w n : Nat} : keep (nW a) μ (C8 μ a w n) := keep_cI (nW_s rfl) (keep_cI (nW_s rfl) (keep_cI (nW_s rfl) (keep_cI (nW_s rfl) (keep_cI (nW_s rfl) (keep_cI (nW_s rfl) (keep_wI (nW_s rfl) (keep_wI (nW_s rfl) (keep_wI (nW_s rfl) keep_r))))))))
theorem cp8_f {a w n : Nat} (h2 : rI μ 9 w 2 = nI n) : ∀ j, j < 3 → rI (C8 μ a w n) 9 a j = rI μ 9 w j := by
  intro j hj
  have c : j = 0 ∨ j = 1 ∨ j = 2 := by omega
  rcases c with rfl | rfl | rfl <;> simp [rI_cI, rI_wI, h2]
theorem cp8_r {a w n : Nat} (ha : w ≠ a) : ∀ k j, 43 ≤ k → k ≤ 48 → j < n → rI (C8 μ a w n) k a j = rI μ k w j := by
  intro k j h1 h2 hj
  have c : k = 43 ∨ k = 44 ∨ k = 45 ∨ k = 46 ∨ k = 47 ∨ k = 48 := by omega
  rcases c with rfl | rfl | rfl | rfl | rfl | rfl <;> simp [rI_cI, rI_wI, hj, ha]
/-! STEPS taken elsewhere -/
theorem Row_t {μ' ν' : sM} {w w' b b' Q s p : Nat} (hx : ∀ k j, 43 ≤ k → k ≤ 48 → j < Q → rI μ' k w' j = rI μ k w j) (hm : ∀ j, j < 348 → rI ν' 61 0 (348 * b' + j) = rI ν 61 0 (348 * b + j)) (hs : s < 30) (hp : p < Q) (h : RowR μ w ν b s p) : RowR μ' w' ν' b' s p := by
  have es : ∀ x, x < 9 → stp ν' b' s x = stp ν b s x := by
    intro x hx
    unfold stp
    have := hm (78 + 9 * s + x) (by omega)
    simp only [← Nat.add_assoc] at this
    exact this
  have e0 := hm 0 (by omega)
  rw [Nat.add_zero, Nat.add_zero] at e0
  unfold RowR
  rw [es 0 (by omega), es 1 (by omega), es 2 (by omega), es 6 (by omega), es 7 (by omega), hx 43 p (by omega) (by omega) hp, hx 44 p (by omega) (by omega) hp, hx 45 p (by omega) (by omega) hp, hx 46 p (by omega) (by omega) hp, hx 47 p (by omega) (by omega) hp, e0, hm 1 (by omega), hm 2 (by omega)]
  exact h
theorem Seg_t {μ' ν' : sM} {w w' b b' Q : Nat} (hx : ∀ k j, 43 ≤ k → k ≤ 48 → j < Q → rI μ' k w' j = rI μ k w j) (hm : ∀ j, j < 348 → rI ν' 61 0 (348 * b' + j) = rI ν 61 0 (348 * b + j)) : ∀ (n d s e p q : Nat), e ≤ 30 → q ≤ Q → Seg μ w ν b n d s e p q → Seg μ' w' ν' b' n d s e p q
  | 0, d, s, e, p, q, _, _, h => h
  | n + 1, d, s, e, p, q, he, hq, h => by
    rcases h with h | ⟨h1, h2, h3, h4⟩
    · exact Or.inl h
    · have es : ∀ x, x < 9 → stp ν' b' s x = stp ν b s x := by
        intro x hx
        unfold stp
        have := hm (78 + 9 * s + x) (by omega)
        simp only [← Nat.add_assoc] at this
        exact this
      refine Or.inr ⟨h1, h2, Row_t hx hm (by omega) (by omega) h3, ?_⟩
      rw [es 0 (by omega), es 8 (by omega)]
      rcases h4 with ⟨g1, g2, g3, g4⟩ | ⟨g1, e1, p1, g2, g3, g4, g5, g6, g7, g8, g9, g10, g11⟩
      · exact Or.inl ⟨g1, g2, g3, Seg_t hx hm n _ _ _ _ _ he hq g4⟩
      · refine Or.inr ⟨g1, e1, p1, g2, g3, g4, g5, g6, ⟨g7.1, Seg_t hx hm n _ _ _ _ _ (by omega) (by omega) g7.2⟩, ?_, ?_, ?_, Seg_t hx hm n _ _ _ _ _ he hq g11⟩
        · rw [hx 43 p1 (by omega) (by omega) (by omega)]; exact g8
        · rw [hx 48 p1 (by omega) (by omega) (by omega)]; exact g9
        · rw [hx 48 p (by omega) (by omega) (by omega)]; exact g10
theorem RelW_t {μ' ν' : sM} {w w' b b' Q : Nat} (h : RelW μ w ν b) (hQ : rI μ 9 w 2 = nI Q) (Q60 : Q ≤ 60) (h9 : ∀ j, j < 3 → rI μ' 9 w' j = rI μ 9 w j) (hx : ∀ k j, 43 ≤ k → k ≤ 48 → j < Q → rI μ' k w' j = rI μ k w j) (hm : ∀ j, j < 348 → rI ν' 61 0 (348 * b' + j) = rI ν 61 0 (348 * b + j)) : RelW μ' w' ν' b' := by
  obtain ⟨h1, h2, h3, h4⟩ := h
  refine ⟨?_, ?_, ?_, ?_⟩
  · rw [h9 0 (by omega), hm 76 (by omega)]; exact h1
  · rw [h9 1 (by omega), hm 77 (by omega)]; exact h2
  · rw [h9 0 (by omega), h9 1 (by omega), h9 2 (by omega)]
    rcases h3 with h3 | ⟨h3, S, p, g1, g2, g3, g4, g5⟩
    · exact Or.inl h3
    · have e : p = Q := (nI_eq (by omega) (by omega)).mp (g3.symm.trans hQ)
      exact Or.inr ⟨h3, S, p, g1, g2, g3, g4, Seg_t hx hm 30 3 0 S 0 p g2 (by omega) g5⟩
  · rw [h9 2 (by omega)]; exact h4
theorem RelR_t {μ' ν' : sM} {r r' b b' : Nat} (h : RelR B μ r ν b) (hR : Riv μ' r' (fun j => rI ν 61 0 (348 * b + j))) (n0 : ∀ j : Nat, (j : Int) < (rI ν 61 0 (348 * b + 0)).toInt → rL μ' 28 r' j = rL μ 28 r j) (n1 : ∀ j : Nat, (j : Int) < (rI ν 61 0 (348 * b + 1)).toInt → rL μ' 24 r' j = rL μ 24 r j) (n2 : ∀ j : Nat, (j : Int) < (rI ν 61 0 (348 * b + 2)).toInt → rL μ' 50 r' j = rL μ 50 r j)
    (hm : ∀ j, j < 348 → rI ν' 61 0 (348 * b' + j) = rI ν 61 0 (348 * b + j)) (hn : ∀ j, j < 18 → rL ν' 64 0 (18 * b' + j) = rL ν 64 0 (18 * b + j)) : RelR B μ' r' ν' b' := by
  obtain ⟨h1, h2, h3, h4⟩ := h
  have u0 := h2.1.1
  have u1 := h2.1.2.1
  have u2 := h2.1.2.2
  unfold rg at u0 u1 u2
  simp only [Nat.add_zero] at u0 n0
  dsimp only at u1 u2
  have e : ∀ j, j < 76 → rI ν' 61 0 (348 * b' + j) = rI ν 61 0 (348 * b + j) := fun j hj => hm j (by omega)
  have e0 := hm 0 (by omega)
  rw [Nat.add_zero, Nat.add_zero] at e0
  refine ⟨Riv_c hR (fun k j hk => ⟨rfl, rfl⟩) e u0.2 u1.2 u2.2, OkR_c h2 e, ⟨fun j hj => ?_, fun j hj => ?_, fun j hj => ?_⟩, by rw [e 6 (by omega)]; exact h4⟩
  · rw [e0] at hj
    rw [n0 j hj, hn j (by omega)]
    exact h3.1 j hj
  · rw [hm 1 (by omega)] at hj
    rw [n1 j hj, Nat.add_assoc, hn (6 + j) (by omega), ← Nat.add_assoc]
    exact h3.2.1 j hj
  · rw [hm 2 (by omega)] at hj
    rw [n2 j hj, Nat.add_assoc, hn (12 + j) (by omega), ← Nat.add_assoc]
    exact h3.2.2 j hj
/-! the reference's copy -/
abbrev cp61 (ν : sM) (a b : Nat) : sM := sC ν 61 0 (fun q => if 348 * b ≤ q ∧ q < 348 * b + 348 then rI ν 61 0 (348 * a + (q - 348 * b)) else rI ν 61 0 q)
abbrev cpB (ν : sM) (a b : Nat) : sM := sD (cp61 ν a b) 64 0 (fun q => if 18 * b ≤ q ∧ q < 18 * b + 18 then rL ν 64 0 (18 * a + (q - 18 * b)) else rL ν 64 0 q)
theorem l18 (t j : Nat) : (18 : Int32) * nI t + nI j = nI (18 * t + j) := by
  rw [show (18 : Int32) = nI 18 from rfl, pk_mul, nI_add]
theorem l348 (t j : Nat) : (348 : Int32) * nI t + nI j = nI (348 * t + j) := by
  rw [show (348 : Int32) = nI 348 from rfl, pk_mul, nI_add]
theorem copy41 {a b : Nat} (ha : a < 5) (hb : b < 5) (hab : a ≠ b) : ∀ (k i fu : Nat) (ν : sM), i + k = 18 → k < fu → X12_copy_L41 fu (nI a) (nI b) (nI i) ν = some (sD ν 64 0 (fun q => if 18 * b + i ≤ q ∧ q < 18 * b + 18 then rL ν 64 0 (18 * a + (q - 18 * b)) else rL ν 64 0 q))
  | 0, i, fu + 1, ν, h, _ => by
    unfold X12_copy_L41
    rw [if_pos (show (18 : Int32) ≤ nI i from nI_le (a := 18) (by omega) (by omega)), sD_id]
    intro j
    rw [if_neg (by omega)]
  | k + 1, i, fu + 1, ν, h, hf => by
    rw [X12_copy_L41]
    rw [if_neg (show ¬ (18 : Int32) ≤ nI i from nI_ge (b := 18) (by omega) (by omega)), l18, l18, if_pos (inb_nI (by omega) (by omega)), if_pos (inb_nI (by omega) (by omega)), ix_nI (by omega), ix_nI (by omega), nI_1, copy41 ha hb hab k (i + 1) fu _ (by omega) (by omega), sD_wL]
    congr 1
    apply sD_c
    intro j
    by_cases e : j = 18 * b + i
    · subst e
      rw [if_neg (by omega), if_pos (by omega), rL_s, show 18 * b + i - 18 * b = i by omega]
    · rw [rL_j e]
      by_cases q : 18 * b + (i + 1) ≤ j ∧ j < 18 * b + 18
      · rw [if_pos q, if_pos (by omega), rL_j (by omega)]
      · rw [if_neg q, if_neg (by omega)]
theorem copy2 {a b : Nat} (ha : a < 5) (hb : b < 5) (hab : a ≠ b) : ∀ (k i fu : Nat) (ν : sM), i + k = 348 → k < fu → X12_copy_L2 fu (nI a) (nI b) (nI i) ν = X12_copy_L41 fuN (nI a) (nI b) 0 (sC ν 61 0 (fun q => if 348 * b + i ≤ q ∧ q < 348 * b + 348 then rI ν 61 0 (348 * a + (q - 348 * b)) else rI ν 61 0 q))
  | 0, i, fu + 1, ν, h, _ => by
    unfold X12_copy_L2
    rw [if_pos (show (348 : Int32) ≤ nI i from nI_le (a := 348) (by omega) (by omega)), sC_id]
    intro j
    rw [if_neg (by omega)]
  | k + 1, i, fu + 1, ν, h, hf => by
    rw [X12_copy_L2]
    rw [if_neg (show ¬ (348 : Int32) ≤ nI i from nI_ge (b := 348) (by omega) (by omega)), l348, l348, if_pos (inb_nI (by omega) (by omega)), if_pos (inb_nI (by omega) (by omega)), ix_nI (by omega), ix_nI (by omega), nI_1, copy2 ha hb hab k (i + 1) fu _ (by omega) (by omega), sC_wI]
    congr 1
    apply sC_c
    intro j
    by_cases e : j = 348 * b + i
    · subst e
      rw [if_neg (by omega), if_pos (by omega), rI_s, show 348 * b + i - 348 * b = i by omega]
    · rw [rI_j e]
      by_cases q : 348 * b + (i + 1) ≤ j ∧ j < 348 * b + 348
      · rw [if_pos q, if_pos (by omega), rI_j (by omega)]
      · rw [if_neg q, if_neg (by omega)]
theorem copyM {a b : Nat} (ha : a < 5) (hb : b < 5) (hab : a ≠ b) (ν : sM) : X12_copy (nI a) (nI b) ν = some (cpB ν a b) := by
  unfold X12_copy
  have h := copy2 ha hb hab 348 0 fuN ν (by omega) (fuN_6 (by omega))
  have h2 := copy41 ha hb hab 18 0 fuN (cp61 ν a b) (by omega) (fuN_6 (by omega))
  rw [nI_0] at h h2
  rw [Nat.add_zero] at h h2
  rw [h, h2]
  rfl
theorem cpB_m {a b : Nat} : ∀ j, j < 348 → rI (cpB ν a b) 61 0 (348 * b + j) = rI ν 61 0 (348 * a + j) := by
  intro j hj
  rw [rI_sD, sC_s, if_pos (by omega), show 348 * b + j - 348 * b = j by omega]
theorem cpB_n {a b : Nat} : ∀ j, j < 18 → rL (cpB ν a b) 64 0 (18 * b + j) = rL ν 64 0 (18 * a + j) := by
  intro j hj
  rw [sD_s, if_pos (by omega), show 18 * b + j - 18 * b = j by omega]
theorem cpB_k {a b k i j : Nat} (h : k ≠ 61) : rI (cpB ν a b) k i j = rI ν k i j := by
  rw [rI_sD, sC_k h]
theorem kq_cpB {P : Nat → Nat → Nat → Bool} {a b : Nat} {ν1 : sM} (h61 : ∀ q, 348 * b ≤ q → q < 348 * b + 348 → P 61 0 q = false) (h64 : ∀ q, 18 * b ≤ q → q < 18 * b + 18 → P 64 0 q = false) (h : kq P ν ν1) : kq P ν (cpB ν1 a b) := by
  intro k i j hq
  refine ⟨?_, ?_⟩
  · rw [rI_sD, rI_sC]
    by_cases c : k = 61 ∧ i = 0
    · rw [if_pos c]
      obtain ⟨rfl, rfl⟩ := c
      by_cases d : 348 * b ≤ j ∧ j < 348 * b + 348
      · rw [h61 j d.1 d.2] at hq
        cases hq
      · rw [if_neg d]
        exact (h 61 0 j hq).1
    · rw [if_neg c]
      exact (h k i j hq).1
  · rw [rL_sD]
    by_cases c : k = 64 ∧ i = 0
    · rw [if_pos c]
      obtain ⟨rfl, rfl⟩ := c
      by_cases d : 18 * b ≤ j ∧ j < 18 * b + 18
      · rw [h64 j d.1 d.2] at hq
        cases hq
      · rw [if_neg d]
        exact (h 64 0 j hq).2
    · rw [if_neg c, rL_sC]
      exact (h k i j hq).2
/-- a RIVER and its WEEKS copied, on both sides -/
theorem copyRW {r r' a : Nat} (hR : RelR B μ r ν a) (hW : RelW μ r ν a) (hr : r ≠ r') : ∃ μ2 μ4, X4_copyFrom r' r μ = some μ2 ∧ X8_copyFrom r' r μ2 = some μ4 ∧ keep (nR r') μ μ2 ∧ keep (nW r') μ2 μ4 ∧
    ∀ (ν' : sM) (b : Nat), (∀ j, j < 348 → rI ν' 61 0 (348 * b + j) = rI ν 61 0 (348 * a + j)) → (∀ j, j < 18 → rL ν' 64 0 (18 * b + j) = rL ν 64 0 (18 * a + j)) → RelR B μ4 r' ν' b ∧ RelW μ4 r' ν' b := by
  obtain ⟨μ2, e2, R2, n0, n1, n2⟩ := copyR hR.1 hR.2.1 hr
  have k2 := X4_copyFrom_fr r' r μ μ2 e2
  have kw : ∀ k i j, wk k = true → rI μ2 k i j = rI μ k i j := fun k i j hk => (k2 k i (by
    unfold nR
    have : rk k = false := by
      unfold wk at hk
      unfold rk
      simp only [Bool.or_eq_true, Bool.and_eq_true, beq_iff_eq, Nat.ble_eq] at hk
      apply Bool.eq_false_iff.mpr
      intro z
      simp only [Bool.or_eq_true, Bool.and_eq_true, beq_iff_eq, Nat.ble_eq] at z
      omega
    rw [this]
    rfl) j).1
  obtain ⟨Q, hQ, Q60, hQ'⟩ := rg_nI (b := 60) hW.2.2.2
  have q2 : rI μ2 9 r 2 = nI Q := (kw 9 r 2 rfl).trans hQ
  have q0 : rI μ2 9 r 0 = 0 ∨ rI μ2 9 r 0 = 1 := by
    rw [kw 9 r 0 rfl]
    rcases hW.2.2.1 with z | z
    · exact Or.inl z
    · exact Or.inr z.1
  refine ⟨μ2, C8 μ2 r' r Q, e2, cp8 q0 q2 Q60, k2, cp8_k, fun ν' b hm hn => ⟨?_, ?_⟩⟩
  · have kR : ∀ k j, rk k = true → rI (C8 μ2 r' r Q) k r' j = rI μ2 k r' j ∧ rL (C8 μ2 r' r Q) k r' j = rL μ2 k r' j := by
      intro k j hk
      have z := cp8_k (μ := μ2) (a := r') (w := r) (n := Q) k r' (by
        unfold nW
        have : wk k = false := by
          unfold rk at hk
          unfold wk
          simp only [Bool.or_eq_true, Bool.and_eq_true, beq_iff_eq, Nat.ble_eq] at hk
          apply Bool.eq_false_iff.mpr
          intro z
          simp only [Bool.or_eq_true, Bool.and_eq_true, beq_iff_eq, Nat.ble_eq] at z
          omega
        rw [this]
        rfl) j
      exact ⟨z.1, z.2.1⟩
    refine RelR_t hR (Riv_c R2 kR (fun _ _ => rfl) hR.2.1.1.1.2 hR.2.1.1.2.1.2 hR.2.1.1.2.2.2) (fun j hj => ?_) (fun j hj => ?_) (fun j hj => ?_) hm hn
    · rw [(kR 28 j rfl).2]; exact n0 j hj
    · rw [(kR 24 j rfl).2]; exact n1 j hj
    · rw [(kR 50 j rfl).2]; exact n2 j hj
  · refine RelW_t hW hQ Q60 (fun j hj => ?_) (fun k j h1 h2 hj => ?_) hm
    · rw [cp8_f q2 j hj, kw 9 r j rfl]
    · rw [cp8_r hr k j h1 h2 hj, kw k r j (by
        unfold wk
        simp only [Bool.or_eq_true, Bool.and_eq_true, beq_iff_eq, Nat.ble_eq]
        omega)]
/-! what a copy leaves alone -/
def nC (r k i : Nat) : Bool := nR r k i && nW r k i
theorem kq_c2 {P : Nat → Nat → Nat → Bool} {r : Nat} {μ2 μ4 : sM} (hP : ∀ k i j, P k i j = true → nC r k i = true) (a : keep (nR r) μ μ2) (c : keep (nW r) μ2 μ4) : kq P μ μ4 :=
  kq_t (kq_k a (fun k i j h => by have := hP k i j h; unfold nC at this; rw [Bool.and_eq_true] at this; exact this.1)) (kq_k c (fun k i j h => by have := hP k i j h; unfold nC at this; rw [Bool.and_eq_true] at this; exact this.2))
theorem nC_i {r k i : Nat} (h : i ≠ r) : nC r k i = true := by
  unfold nC nR nW
  simp [h]
theorem nC_k {r k i : Nat} (h : rk k = false ∧ wk k = false) : nC r k i = true := by
  unfold nC nR nW
  simp [h.1, h.2]
theorem qF_c {r : Nat} : ∀ k i j, qF k i j = true → nC r k i = true := by
  intro k i j h
  apply nC_k
  unfold qF at h
  simp only [Bool.or_eq_true, Bool.and_eq_true, beq_iff_eq, Nat.ble_eq] at h
  rcases h with ⟨rfl, -⟩ | ⟨rfl, -⟩ <;> exact ⟨rfl, rfl⟩
theorem qT_c {r : Nat} : ∀ k i j, qT k i j = true → nC r k i = true := by
  intro k i j h
  apply nC_k
  unfold qT at h
  simp only [Bool.or_eq_true, Bool.and_eq_true, beq_iff_eq, Nat.ble_eq] at h
  rcases h with rfl | rfl | rfl | rfl | rfl | rfl <;> exact ⟨rfl, rfl⟩
theorem qP_c {r : Nat} : ∀ k i j, qP k i j = true → nC r k i = true := by
  intro k i j h
  apply nC_k
  unfold qP at h
  simp only [Bool.or_eq_true, Bool.and_eq_true, beq_iff_eq, Nat.ble_eq] at h
  rcases h with ⟨rfl, -⟩ | rfl | rfl | ⟨rfl, -⟩ <;> exact ⟨rfl, rfl⟩
theorem qV_c {r : Nat} : ∀ k i j, qV k i j = true → nC r k i = true := by
  intro k i j h
  apply nC_k
  unfold qV at h
  simp only [Bool.or_eq_true, Bool.and_eq_true, beq_iff_eq, Nat.ble_eq] at h
  rcases h with ⟨rfl, -⟩ | ⟨rfl, -⟩ | rfl <;> exact ⟨rfl, rfl⟩
theorem qR_n {r r' b : Nat} (h : r ≠ r') : ∀ k i j, qR r b k i j = true → nC r' k i = true := by
  intro k i j hq
  unfold qR at hq
  simp only [Bool.or_eq_true, Bool.and_eq_true, beq_iff_eq, Nat.ble_eq] at hq
  rcases hq with ⟨hi, -⟩ | ⟨rfl, -⟩ | ⟨rfl, -⟩
  · exact nC_i (by omega)
  · exact nC_k ⟨rfl, rfl⟩
  · exact nC_k ⟨rfl, rfl⟩
theorem qW_n {r r' b : Nat} (h : r ≠ r') : ∀ k i j, qW r b k i j = true → nC r' k i = true := by
  intro k i j hq
  unfold qW at hq
  simp only [Bool.or_eq_true, Bool.and_eq_true, beq_iff_eq, Nat.ble_eq] at hq
  rcases hq with ⟨hi, -⟩ | ⟨rfl, -⟩
  · exact nC_i (by omega)
  · exact nC_k ⟨rfl, rfl⟩
theorem q12 {r b i j : Nat} : qR r b 12 i j = false ∧ qW r b 12 i j = false ∧ qR r b 13 i j = false ∧ qW r b 13 i j = false := by
  refine ⟨?_, ?_, ?_, ?_⟩
  · unfold qR rk; simp
  · unfold qW; simp
  · unfold qR rk; simp
  · unfold qW; simp
theorem qR61 {r b b' : Nat} (h : b ≠ b') : (∀ q, 348 * b' ≤ q → q < 348 * b' + 348 → qR r b 61 0 q = false) ∧ ∀ q, 18 * b' ≤ q → q < 18 * b' + 18 → qR r b 64 0 q = false := by
  refine ⟨fun q h1 h2 => ?_, fun q h1 h2 => ?_⟩
  · apply Bool.eq_false_iff.mpr
    intro z
    unfold qR rk at z
    simp only [Bool.or_eq_true, Bool.and_eq_true, beq_iff_eq, Nat.ble_eq] at z
    omega
  · apply Bool.eq_false_iff.mpr
    intro z
    unfold qR rk at z
    simp only [Bool.or_eq_true, Bool.and_eq_true, beq_iff_eq, Nat.ble_eq] at z
    omega
theorem qW61 {r b b' : Nat} (h : b ≠ b') : (∀ q, 348 * b' ≤ q → q < 348 * b' + 348 → qW r b 61 0 q = false) ∧ ∀ q, 18 * b' ≤ q → q < 18 * b' + 18 → qW r b 64 0 q = false := by
  refine ⟨fun q h1 h2 => ?_, fun q h1 h2 => ?_⟩
  · apply Bool.eq_false_iff.mpr
    intro z
    unfold qW at z
    simp only [Bool.or_eq_true, Bool.and_eq_true, beq_iff_eq, Nat.ble_eq] at z
    omega
  · apply Bool.eq_false_iff.mpr
    intro z
    unfold qW at z
    simp only [Bool.or_eq_true, Bool.and_eq_true, beq_iff_eq, Nat.ble_eq] at z
    omega
theorem m_mark : BoI B X11_mark X12_mark := fun μ ν h => by
  have h' := h
  obtain ⟨-, hF, hT, hP, hR, hW, ⟨k1, k, k2, k3, k4⟩, hV⟩ := h'
  unfold X11_mark X12_mark
  rw [k1, k2]
  by_cases c : k = 3
  · subst c
    exact ⟨-1, _, _, by rw [if_neg (by decide +kernel)]; rfl, by rw [if_pos (by decide +kernel)]; rfl, re_b h 7⟩
  · obtain ⟨μ2, μ4, e2, e4, f2, f4, hc⟩ := copyRW hR hW (show 0 ≠ 1 + k by omega)
    have k12 : ∀ j, rI μ2 12 0 j = rI μ 12 0 j := fun j => (f2 12 0 rfl j).1
    have k12' : ∀ j, rI μ4 12 0 j = rI μ 12 0 j := fun j => ((f4 12 0 rfl j).1).trans (k12 j)
    have ek : ¬ nI k = 3 := by rw [show (3 : Int32) = nI 3 from rfl, nI_eq (by omega) (by omega)]; exact c
    obtain ⟨cR, cW⟩ := hc (cpB (wI (m0 ν) 13 0 24 (nI (k + 1))) 0 (k + 1)) (1 + k) (fun j hj => by rw [show 1 + k = k + 1 by omega, cpB_m j hj, rI_k (by decide), m0_k (by decide)]) (fun j hj => by rw [show 1 + k = k + 1 by omega, cpB_n j hj]; rfl)
    have aX : ∀ {P : Nat → Nat → Nat → Bool}, (∀ k' i j, P k' i j = true → nC (1 + k) k' i = true) → P 12 0 3 = false → P 12 0 0 = false → kq P μ (wI (wI μ4 12 0 3 (nI (k + 1))) 12 0 0 0) := fun hp p3 p0 => kq_wI p0 (kq_wI p3 (kq_c2 hp f2 f4))
    have aM : ∀ {P : Nat → Nat → Nat → Bool}, (∀ q, 348 * (k + 1) ≤ q → q < 348 * (k + 1) + 348 → P 61 0 q = false) → (∀ q, 18 * (k + 1) ≤ q → q < 18 * (k + 1) + 18 → P 64 0 q = false) → P 13 0 0 = false → P 13 0 1 = false → P 13 0 24 = false → kq P ν (cpB (wI (m0 ν) 13 0 24 (nI (k + 1))) 0 (k + 1)) := fun p1 p2 p3 p4 p5 => kq_cpB p1 p2 (kq_wI p5 (kq_wI p3 (kq_wI p4 kq_r)))
    refine ⟨nI (k + 1), wI (wI μ4 12 0 3 (nI (k + 1))) 12 0 0 0, cpB (wI (m0 ν) 13 0 24 (nI (k + 1))) 0 (k + 1), ?_, ?_, ?_, ?_, ?_, ?_, ?_, ?_, ?_, ?_⟩
    · rw [if_pos (show nI k < 3 from nI_lt (b := 3) (by omega) (by omega)), if_pos (inb_nI (by omega) (by omega)), ix_nI (by omega), e2, bV_s, k12, k1, k2, if_pos (inb_nI (by omega) (by omega)), ix_nI (by omega), e4, bV_s, k12', k1, k2, nI_1]
      rfl
    · rw [if_neg ek, nI_1, show (0 : Int32) = nI 0 from rfl]
      have z := copyM (a := 0) (b := k + 1) (by omega) (by omega) (by omega) (wI (m0 ν) 13 0 24 (nI (k + 1)))
      rw [show m0 ν = wI (wI ν 13 0 1 (nI 0)) 13 0 0 (nI 0) from rfl] at z
      rw [z, bV_s, cpB_k (by decide), rI_s]
      rfl
    · rw [rI_s, cpB_k (by decide), rI_j (by decide), rI_s]
    · exact RelF_c hF (aX qF_c rfl rfl) (aM (fun _ _ _ => rfl) (fun _ _ _ => rfl) rfl rfl rfl)
    · exact RelT_c hT (aX qT_c rfl rfl) (aM (fun _ _ _ => rfl) (fun _ _ _ => rfl) rfl rfl rfl)
    · exact RelP_c hP (aX qP_c rfl rfl) (aM (fun _ _ _ => rfl) (fun _ _ _ => rfl) rfl rfl rfl)
    · exact RelR_c hR (aX (qR_n (by omega)) rfl rfl) (aM (qR61 (by omega)).1 (qR61 (by omega)).2 rfl rfl rfl) (by omega)
    · exact RelW_c hW (aX (qW_n (by omega)) rfl rfl) (aM (qW61 (by omega)).1 (qW61 (by omega)).2 rfl rfl rfl)
    · refine ⟨?_, k + 1, ?_, by omega, fun i hi => ?_⟩
      · rw [rI_j (by decide), rI_s, cpB_k (by decide), rI_s]
      · rw [cpB_k (by decide), rI_s]
      · by_cases ci : i = k
        · subst ci
          exact ⟨RelR_c cR (kq_wI q12.1 (kq_wI q12.1 kq_r)) kq_r (by omega), RelW_c cW (kq_wI q12.2.1 (kq_wI q12.2.1 kq_r)) kq_r⟩
        · obtain ⟨z1, z2⟩ := k4 i (by omega)
          exact ⟨RelR_c z1 (aX (qR_n (by omega)) q12.1 q12.1) (aM (qR61 (by omega)).1 (qR61 (by omega)).2 q12.2.2.1 q12.2.2.1 q12.2.2.1) (by omega), RelW_c z2 (aX (qW_n (by omega)) q12.2.1 q12.2.1) (aM (qW61 (by omega)).1 (qW61 (by omega)).2 q12.2.2.2 q12.2.2.2 q12.2.2.2)⟩
    · exact RelV_c hV (aX qV_c rfl rfl) (aM (fun _ _ _ => rfl) (fun _ _ _ => rfl) rfl rfl rfl)
theorem m_back : BoI B X11_back X12_back := fun μ ν h => by
  have h' := h
  obtain ⟨-, hF, hT, hP, hR, hW, ⟨k1, k, k2, k3, k4⟩, hV⟩ := h'
  unfold X11_back X12_back
  rw [k1, k2]
  by_cases c : k = 0
  · subst c
    exact ⟨-1, _, _, by rw [if_neg (by decide +kernel)]; rfl, by rw [if_pos (by decide +kernel)]; rfl, re_b h 8⟩
  · obtain ⟨m, rfl⟩ : ∃ m, k = m + 1 := ⟨k - 1, by omega⟩
    have e0 : ¬ nI (m + 1) = 0 := nI_ne0 (by omega) (by omega)
    obtain ⟨sR, sW⟩ := k4 m (by omega)
    have sR' : RelR B (wI μ 12 0 3 (nI m)) (1 + m) ν (1 + m) := RelR_c sR (kq_wI q12.1 kq_r) kq_r (Int.le_refl B)
    have sW' : RelW (wI μ 12 0 3 (nI m)) (1 + m) ν (1 + m) := RelW_c sW (kq_wI q12.2.1 kq_r) kq_r
    obtain ⟨μ2, μ4, e2, e4, f2, f4, hc⟩ := copyRW sR' sW' (show 1 + m ≠ 0 by omega)
    have k12 : rI μ2 12 0 3 = nI m := ((f2 12 0 rfl 3).1).trans rI_s
    have k12' : rI μ4 12 0 3 = nI m := ((f4 12 0 rfl 3).1).trans k12
    obtain ⟨cR, cW⟩ := hc (cpB (m0 ν) (m + 1) 0) 0 (fun j hj => by rw [cpB_m j hj, show 1 + m = m + 1 by omega, m0_k (by decide)]) (fun j hj => by rw [cpB_n j hj, show 1 + m = m + 1 by omega]; rfl)
    have aX : ∀ {P : Nat → Nat → Nat → Bool}, (∀ k' i j, P k' i j = true → nC 0 k' i = true) → P 12 0 3 = false → P 12 0 0 = false → kq P μ (wI μ4 12 0 0 0) := fun hp p3 p0 => kq_wI p0 (kq_t (kq_wI p3 kq_r) (kq_c2 hp f2 f4))
    have aM : ∀ {P : Nat → Nat → Nat → Bool}, (∀ q, 348 * 0 ≤ q → q < 348 * 0 + 348 → P 61 0 q = false) → (∀ q, 18 * 0 ≤ q → q < 18 * 0 + 18 → P 64 0 q = false) → P 13 0 0 = false → P 13 0 1 = false → P 13 0 24 = false → kq P ν (wI (cpB (m0 ν) (m + 1) 0) 13 0 24 (nI m)) := fun p1 p2 p3 p4 p5 => kq_wI p5 (kq_cpB p1 p2 (kq_wI p3 (kq_wI p4 kq_r)))
    refine ⟨nI m, wI μ4 12 0 0 0, wI (cpB (m0 ν) (m + 1) 0) 13 0 24 (nI m), ?_, ?_, ?_, ?_, ?_, ?_, ?_, ?_, ?_, ?_⟩
    · rw [if_pos (show (0 : Int32) < nI (m + 1) from nI_lt (a := 0) (by omega) (by omega)), nI_pred, if_pos (inb_nI (by omega) (by omega)), ix_nI (by omega), e2, bV_s, k12, if_pos (inb_nI (by omega) (by omega)), ix_nI (by omega), e4, bV_s, k12']
      rfl
    · rw [if_neg e0, show (0 : Int32) = nI 0 from rfl]
      have z := copyM (a := m + 1) (b := 0) (by omega) (by omega) (by omega) (m0 ν)
      rw [show m0 ν = wI (wI ν 13 0 1 (nI 0)) 13 0 0 (nI 0) from rfl] at z
      have y : rI (cpB (wI (wI ν 13 0 1 (nI 0)) 13 0 0 (nI 0)) (m + 1) 0) 13 0 24 = nI (m + 1) := by rw [cpB_k (by decide), rI_j (by decide), rI_j (by decide)]; exact k2
      rw [z, bV_s, y, nI_pred]
      rfl
    · rw [rI_s, rI_j (by decide), cpB_k (by decide), rI_s]
    · exact RelF_c hF (aX qF_c rfl rfl) (aM (fun _ _ _ => rfl) (fun _ _ _ => rfl) rfl rfl rfl)
    · exact RelT_c hT (aX qT_c rfl rfl) (aM (fun _ _ _ => rfl) (fun _ _ _ => rfl) rfl rfl rfl)
    · exact RelP_c hP (aX qP_c rfl rfl) (aM (fun _ _ _ => rfl) (fun _ _ _ => rfl) rfl rfl rfl)
    · exact RelR_c cR (kq_wI q12.1 kq_r) (kq_wI q12.2.2.1 kq_r) (by omega)
    · exact RelW_c cW (kq_wI q12.2.1 kq_r) (kq_wI q12.2.2.2 kq_r)
    · refine ⟨?_, m, ?_, by omega, fun i hi => ?_⟩
      · rw [rI_j (by decide), k12', rI_s]
      · rw [rI_s]
      · obtain ⟨z1, z2⟩ := k4 i (by omega)
        exact ⟨RelR_c z1 (aX (qR_n (by omega)) q12.1 q12.1) (aM (qR61 (by omega)).1 (qR61 (by omega)).2 q12.2.2.1 q12.2.2.1 q12.2.2.1) (by omega), RelW_c z2 (aX (qW_n (by omega)) q12.2.1 q12.2.1) (aM (qW61 (by omega)).1 (qW61 (by omega)).2 q12.2.2.2 q12.2.2.2 q12.2.2.2)⟩
    · exact RelV_c hV (aX qV_c rfl rfl) (aM (fun _ _ _ => rfl) (fun _ _ _ => rfl) rfl rfl rfl)
end C98e
