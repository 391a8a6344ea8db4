/-! 98v: WEEKS that are read: one STEP's head -/
section C98v
variable {B : Int} {μ ν : sM} {b : Nat → Int32} {n i m K s S Q d : Nat} {V : Int64}
abbrev Wr (c : Nat) (μ : sM) : Option (Int32 × sM) := X9_readFor_L32 (fuN - c) (nI c) μ
abbrev W81 (c : Nat) (x : Int32) (μ : sM) : Option (Int32 × sM) := if x = 0 then some (0, μ) else bI (X9_readRest μ) fun x1 μ2 => if x1 = 0 then some (0, μ2) else if (rR μ2 10 0 1) = 1 then bI (X6_takeEnd μ2) fun x4 μ5 => if x4 = 0 then some (0, μ5) else Wr (c + 1) μ5 else none
theorem Wr_u {c : Nat} (hc : c ≤ 299) (r1 : rR μ 10 0 1 = 1) : Wr c μ = if (rI μ 7 0 4) = 32 then X9_readFor_J113 μ else if (rI μ 7 0 4) = 25 then (if (rI μ 10 0 4) ≤ 0 then bI (X9_beginStep μ) (W81 c) else bI (X9_beginEnd μ) (W81 c)) else bI (X9_beginStep μ) (W81 c) := by
  have e : fuN - c = (fuN - (c + 1)) + 1 := by unfold fuN; omega
  show X9_readFor_L32 (fuN - c) (nI c) μ = _
  rw [e, X9_readFor_L32]
  rw [if_neg (show ¬ (300 : Int32) ≤ nI c from nI_ge (b := 300) (by omega) (by omega)), r1, if_pos rfl, if_pos rfl]
  unfold X9_readFor_J77 X9_readFor_J81
  rw [nI_1]
/-- what a STEP that is read leaves alone: rows before Q, STEPS before S, the first d that are begun -/
def FW (Q S d : Nat) (μ ν μ' ν' : sM) : Prop := (kq qXw μ μ' ∧ (∀ k i j, rR μ' k i j = rR μ k i j) ∧ kq qMw ν ν') ∧ (∀ k j, 43 ≤ k → k ≤ 48 → j < Q → rI μ' k 4 j = rI μ k 4 j) ∧ (∀ j, j < d → rI μ' 49 0 j = rI μ 49 0 j) ∧ (∀ j, j < 1470 + 9 * S → rI ν' 61 0 j = rI ν 61 0 j)
theorem FW_r : FW Q S d μ ν μ ν := ⟨⟨kq_r, fun _ _ _ => rfl, kq_r⟩, fun _ _ _ _ _ => rfl, fun _ _ => rfl, fun _ _ => rfl⟩
theorem FW_t {Q1 S1 d1 : Nat} {μ1 ν1 μ2 ν2 : sM} (h : FW Q S d μ ν μ1 ν1) (h' : FW Q1 S1 d1 μ1 ν1 μ2 ν2) (a : Q ≤ Q1) (c : S ≤ S1) (e : d ≤ d1) : FW Q S d μ ν μ2 ν2 :=
  ⟨⟨kq_t h.1.1 h'.1.1, fun k i j => (h'.1.2.1 k i j).trans (h.1.2.1 k i j), kq_t h.1.2.2 h'.1.2.2⟩, fun k j x y z => (h'.2.1 k j x y (by omega)).trans (h.2.1 k j x y z), fun j hj => (h'.2.2.1 j (by omega)).trans (h.2.2.1 j hj), fun j hj => (h'.2.2.2 j (by omega)).trans (h.2.2.2 j hj)⟩
theorem FW_x {μ1 ν1 : sM} (a : FX μ μ1) (c : kq qMt ν ν1) : FW Q S d μ ν μ1 ν1 := ⟨⟨FX_w a, a.2, FM_w c⟩, fun k j x y z => (a.1 k 4 j (by
    unfold qXt
    have : k ≠ 7 := by omega
    simp [this])).1, fun j _ => (a.1 49 0 j rfl).1, fun j _ => (c 61 0 j rfl).1⟩
theorem qA1_l {j k : Nat} (h : 43 ≤ k ∧ k ≤ 48) (hj : j < Q) : qA1 Q k 4 j = true := by
  unfold qA1
  have a : k ≠ 7 := by omega
  have c : j ≠ Q := by omega
  simp [a, c]
theorem qB1_l {j : Nat} (hj : j ≤ 1470 + 9 * S) : qB1 S 61 0 j = true := by
  unfold qB1
  have : Nat.ble (1470 + 9 * S + 1) j = false := by
    apply Bool.eq_false_iff.mpr
    intro z
    have := Nat.le_of_ble_eq_true z
    omega
  simp [this]
theorem qXw_A : ∀ k i j, qXw k i j = true → qA1 Q k i j = true := by
  intro k i j h
  unfold qXw wk4 wk at h
  unfold qA1
  by_cases a : k = 7 ∧ 2 ≤ j ∧ j ≤ 7
  · exfalso
    obtain ⟨rfl, a1, a2⟩ := a
    simp [Nat.ble_eq_true_of_le a1, Nat.ble_eq_true_of_le a2] at h
  · by_cases c : 44 ≤ k ∧ k ≤ 47 ∧ i = 4 ∧ j = Q
    · exfalso
      obtain ⟨c1, c2, rfl, -⟩ := c
      have e1 := Nat.ble_eq_true_of_le (show 43 ≤ k by omega)
      have e2 := Nat.ble_eq_true_of_le (show k ≤ 48 by omega)
      rw [e1, e2] at h
      simp at h
    · cases e : ((k == 7 && (Nat.ble 2 j && Nat.ble j 7)) || (Nat.ble 44 k && (Nat.ble k 47 && (i == 4 && j == Q)))) with
      | false => rfl
      | true =>
        exfalso
        simp only [Bool.or_eq_true, Bool.and_eq_true, beq_iff_eq, Nat.ble_eq] at e
        rcases e with e | e
        · exact a e
        · exact c e
theorem qMw_B : ∀ k i j, qMw k i j = true → qB1 S k i j = true := by
  intro k i j h
  unfold qMw at h
  unfold qB1
  by_cases a : k = 13 ∧ 12 ≤ j ∧ j ≤ 19
  · exfalso
    obtain ⟨rfl, a1, a2⟩ := a
    simp [Nat.ble_eq_true_of_le a1, Nat.ble_eq_true_of_le a2] at h
  · by_cases c : k = 61 ∧ 1470 ≤ j
    · exfalso
      obtain ⟨rfl, c⟩ := c
      simp [Nat.ble_eq_true_of_le c] at h
    · cases e : ((k == 13 && (Nat.ble 12 j && Nat.ble j 19)) || (k == 61 && (Nat.ble (1470 + 9 * S + 1) j && Nat.ble j (1470 + 9 * S + 7)))) with
      | false => rfl
      | true =>
        exfalso
        simp only [Bool.or_eq_true, Bool.and_eq_true, beq_iff_eq, Nat.ble_eq] at e
        rcases e with e | e
        · exact a e
        · exact c ⟨e.1, by omega⟩
theorem FW_A {μ1 ν1 : sM} (a : FA Q μ μ1) (c : kq (qB1 S) ν ν1) : FW Q S d μ ν μ1 ν1 := ⟨⟨kq_m a.1 qXw_A, a.2, kq_m c qMw_B⟩, fun k j x y z => (a.1 k 4 j (qA1_l ⟨x, y⟩ z)).1, fun j _ => (a.1 49 0 j rfl).1, fun j hj => (c 61 0 j (qB1_l (by omega))).1⟩
/-! rows and STEPS taken elsewhere -/
theorem Seg_v {μ' ν' : sM} {w w' bb bb' R E : Nat} (hx : ∀ k j, 43 ≤ k → k ≤ 48 → j < R → rI μ' k w' j = rI μ k w j) (hs : ∀ s x, s < E → x < 9 → stp ν' bb' s x = stp ν bb s x) (hc : ∀ j, j < 3 → rI ν' 61 0 (348 * bb' + j) = rI ν 61 0 (348 * bb + j)) : ∀ (n d s e p q : Nat), e ≤ E → q ≤ R → Seg μ w ν bb n d s e p q → Seg μ' w' ν' bb' n d s e p q
  | 0, d, s, e, p, q, _, _, h => h
  | n + 1, d, s, e, p, q, he, hq, h => by
    rcases h with h | ⟨h1, h2, h3, h4⟩
    · exact Or.inl h
    · have e0 := hc 0 (by omega)
      rw [Nat.add_zero, Nat.add_zero] at e0
      have h3' : RowR μ' w' ν' bb' s p := by
        unfold RowR
        rw [hs s 0 (by omega) (by omega), hs s 1 (by omega) (by omega), hs s 2 (by omega) (by omega), hs s 6 (by omega) (by omega), hs s 7 (by omega) (by omega), hx 43 p (by omega) (by omega) (by omega), hx 44 p (by omega) (by omega) (by omega), hx 45 p (by omega) (by omega) (by omega), hx 46 p (by omega) (by omega) (by omega), hx 47 p (by omega) (by omega) (by omega), e0, hc 1 (by omega), hc 2 (by omega)]
        exact h3
      refine Or.inr ⟨h1, h2, h3', ?_⟩
      rw [hs s 0 (by omega) (by omega), hs s 8 (by omega) (by omega)]
      rcases h4 with ⟨g1, g2, g3, g4⟩ | ⟨g1, e1, p1, g2, g3, g4, g5, g6, g7, g8, g9, g10, g11⟩
      · exact Or.inl ⟨g1, g2, g3, Seg_v hx hs hc n _ _ _ _ _ he hq g4⟩
      · refine Or.inr ⟨g1, e1, p1, g2, g3, g4, g5, g6, ⟨g7.1, Seg_v hx hs hc n _ _ _ _ _ (by omega) (by omega) g7.2⟩, ?_, ?_, ?_, Seg_v hx hs hc n _ _ _ _ _ he hq g11⟩
        · rw [hx 43 p1 (by omega) (by omega) (by omega)]; exact g8
        · rw [hx 48 p1 (by omega) (by omega) (by omega)]; exact g9
        · rw [hx 48 p (by omega) (by omega) (by omega)]; exact g10
theorem Seg_le {w bb : Nat} : ∀ (n n' d s e p q : Nat), n ≤ n' → Seg μ w ν bb n d s e p q → Seg μ w ν bb n' d s e p q
  | 0, 0, _, _, _, _, _, _, h => h
  | 0, n' + 1, _, _, _, _, _, _, h => Or.inl h
  | n + 1, 0, _, _, _, _, _, hl, _ => by omega
  | n + 1, n' + 1, d, s, e, p, q, hl, h => by
    rcases h with h | ⟨h1, h2, h3, h4⟩
    · exact Or.inl h
    · refine Or.inr ⟨h1, h2, h3, ?_⟩
      rcases h4 with ⟨g1, g2, g3, g4⟩ | ⟨g1, e1, p1, g2, g3, g4, g5, g6, g7, g8, g9, g10, g11⟩
      · exact Or.inl ⟨g1, g2, g3, Seg_le n n' _ _ _ _ _ (by omega) g4⟩
      · exact Or.inr ⟨g1, e1, p1, g2, g3, g4, g5, g6, ⟨g7.1, Seg_le n n' _ _ _ _ _ (by omega) g7.2⟩, g8, g9, g10, Seg_le n n' _ _ _ _ _ (by omega) g11⟩
/-! behind a fault -/
theorem b_192 {f : Nat} {rec : Int32 → sM → Option sM} {fu : Nat} {dd : Int32} {fl : Nat} (h : rI ν 13 0 12 = nI f) (f1 : 1 ≤ f) (f7 : f ≤ 7) (hS : S < 30) (hf : fl ≤ 1) : X12_readStep_L142 rec (fu + 1) dd (nI fl) (nI (1470 + 9 * S)) ν = some (wI ν 61 0 (1470 + 9 * S + 8) (rI ν 13 0 26)) := by
  have w8 := ix_w hS (x := 8) (by omega)
  have e192 : X12_readStep_J192 rec (nI (1470 + 9 * S)) ν = some (wI ν 61 0 (1470 + 9 * S + 8) (rI ν 13 0 26)) := by
    unfold X12_readStep_J192
    rw [n8, if_pos w8.1, w8.2]
  have e170 : X12_readStep_J170 rec (nI fl) (nI (1470 + 9 * S)) ν = some (wI ν 61 0 (1470 + 9 * S + 8) (rI ν 13 0 26)) := by
    unfold X12_readStep_J170
    obtain ⟨x, ex⟩ := so_End ν
    obtain ⟨y, ey⟩ := so_Sign 59 ν
    rw [ex, bI_s, b_must h f1 f7, bV_s, ey, bI_s, b_must h f1 f7, bV_s, e192]
    by_cases c : nI fl = 0
    · rw [if_pos c]
    · rw [if_neg c]
  rw [X12_readStep_L142]
  rw [e170, h, if_neg (fs_pos f1 f7).2.1]
  by_cases c : nI fl = 0
  · rw [if_pos c]
  · rw [if_neg c]
/-- a STEP's head: its word, the rest, its sign -/
theorem headS {rec : Int32 → sM → Option sM} (n3 : n ≤ 300) (h : CS μ ν b n i m K V s) (w : WV B μ ν S Q d) (hK : K ≠ 32 ∨ 0 < d) (hE : K ≠ 25 ∨ d = 0) :
    (∃ μ' ν', (∀ c, 2 * c ≤ i → Wr c μ = some (0, μ')) ∧ X12_readStep_ rec (nI d) ν = some ν' ∧ FS μ' ν' ∧ kq qXw μ μ' ∧ kq qMw ν ν') ∨
    (∃ fl μ' ν' i' m' K' V' s', stk K fl ∧ S < 30 ∧ (fl = 1 → d < 3 ∧ rI μ' 49 0 d = nI Q) ∧ i + 2 ≤ i' ∧ (∀ c, 2 * c ≤ i → Wr c μ = Wr (c + 1) μ') ∧ X12_readStep_ rec (nI d) ν = X12_readStep_L142 rec fuN (nI d) (nI fl) (nI (1470 + 9 * S)) ν' ∧ CS μ' ν' b n i' m' K' V' s' ∧ (RowR μ' 4 (vv ν') 0 S Q ∧ rI μ' 43 4 Q = nI K) ∧ WV B μ' ν' (S + 1) (Q + 1) (d + fl) ∧ FW Q S d μ ν μ' ν') := by
  have hin := h.2.1.2.2.1
  have h5 := h.2.2.1.1
  have h8 := h.2.2.2.1
  have h11 := h.2.2.2.2.2.2.1
  have hT := h.2.2.2.2.1
  obtain ⟨⟨w1, w2, w3, w4⟩, ⟨w5, w6, w7, w8⟩, ⟨w9, w10⟩, w11⟩ := id w
  by_cases c32 : K = 32
  · obtain ⟨μ', ν', t1, t2, r, g1, g2⟩ := amiss2 h
    obtain ⟨f, f1', f7', q⟩ := FS_b r
    have d0 : 0 < d := by omega
    refine Or.inl ⟨μ', ν', fun c hc => ?_, ?_, r, FX_w g1, FM_w g2⟩
    · rw [Wr_u (by omega) w9, h5, c32, if_pos (show nI 32 = 32 from rfl)]
      unfold X9_readFor_J113
      rw [w6, if_neg (nI_ne0 d0 (by omega)), w9, if_pos rfl, t1, bI_s, if_pos rfl]
    · have e : sWd K = -1 := by rw [c32]; rfl
      unfold X12_readStep_
      rw [stepW hT, bI_s, e, if_neg (by decide +kernel), if_neg (by decide +kernel)]
      unfold X12_readStep_J22
      rw [if_neg (by decide +kernel), t2, bV_s]
      unfold X12_readStep_J31 X12_readStep_J57 X12_readStep_J83
      rw [q, if_neg (fs_pos f1' f7').2.1, if_neg (fs_pos f1' f7').2.1, if_neg (fs_pos f1' f7').1]
  · have eW : ∀ c, 2 * c ≤ i → Wr c μ = bI (X9_beginStep μ) (W81 c) := by
      intro c hc
      rw [Wr_u (by omega) w9, h5, if_neg (show ¬ nI K = 32 from fun z => c32 ((nI_eq (b := 32) (by omega) (by omega)).mp z))]
      by_cases c25 : K = 25
      · have d0 : d = 0 := by omega
        rw [if_pos (show nI K = 25 by rw [c25]; rfl), w6, d0, if_pos (by decide +kernel)]
      · rw [if_neg (show ¬ nI K = 25 from fun z => c25 ((nI_eq (b := 25) (by omega) (by omega)).mp z))]
    rcases beginS (rec := rec) h w with ⟨μ', ν', e1, e2, r, g1, g2⟩ | ⟨fl, μ1, μ2, ν2, m2, K2, V2, s2, hs, S30, hfl, hμ1, e1, e2, C2, f2, g2⟩
    · refine Or.inl ⟨μ', ν', fun c hc => ?_, e2, r, g1, g2⟩
      rw [eW c hc, e1, bI_s]
      exact if_pos rfl
    · have f01 : fl ≤ 1 := by
        rcases hs with ⟨-, z⟩ | ⟨-, z⟩ <;> omega
      -- the row that was begun
      have B1 : rI μ1 43 4 Q = nI K ∧ rI μ1 45 4 Q = 0 ∧ rI μ1 10 0 3 = nI Q ∧ rI μ1 9 4 1 = nI (S + 1) ∧ rI μ1 9 4 2 = nI (Q + 1) ∧ rI μ1 9 4 0 = 1 ∧ rI μ1 10 0 4 = nI (d + fl) ∧ (fl = 1 → rI μ1 49 0 d = nI Q) ∧ (∀ k i j, rR μ1 k i j = rR μ k i j) ∧ kq qXw μ μ1 ∧ (∀ k j, 43 ≤ k → k ≤ 48 → j < Q → rI μ1 k 4 j = rI μ k 4 j) ∧ (∀ j, j < d → rI μ1 49 0 j = rI μ 49 0 j) ∧ kq (qR 0 0) μ μ1 := by
        rcases hμ1 with ⟨rfl, rfl⟩ | ⟨rfl, rfl⟩
        · refine ⟨?_, ?_, ?_, ?_, ?_, ?_, ?_, fun z => by omega, fun _ _ _ => rfl, ?_, fun k j x y z => ?_, fun j hj => ?_, ?_⟩
          · rw [rI_k (by decide), rI_k (by decide), rI_k (by decide), rI_k (by decide), rI_k (by decide), rI_k (by decide), rI_k (by decide), rI_k (by decide), rI_s]
          · rw [rI_k (by decide), rI_k (by decide), rI_k (by decide), rI_k (by decide), rI_k (by decide), rI_k (by decide), rI_s]
          · rw [rI_k (by decide), rI_s]
          · rw [rI_s]
          · rw [rI_j (by decide), rI_k (by decide), rI_s]
          · rw [rI_j (by decide), rI_k (by decide), rI_j (by decide), rI_k (by decide), rI_k (by decide), rI_k (by decide), rI_k (by decide), rI_k (by decide), rI_k (by decide)]; exact w1
          · rw [rI_k (by decide), rI_j (by decide), rI_k (by decide), rI_k (by decide), rI_k (by decide), rI_k (by decide), rI_k (by decide), rI_k (by decide), rI_k (by decide)]; exact w6
          · exact kq_wI rfl (kq_wI rfl (kq_wI rfl (kq_wI rfl (kq_wI rfl (kq_wI rfl (kq_wI rfl (kq_wI rfl (kq_wI rfl kq_r))))))))
          · rw [rI_k (by omega), rI_k (by omega), rI_k (by omega), rI_j (by omega), rI_j (by omega), rI_j (by omega), rI_j (by omega), rI_j (by omega), rI_j (by omega)]
          · rw [rI_k (by decide), rI_k (by decide), rI_k (by decide), rI_k (by decide), rI_k (by decide), rI_k (by decide), rI_k (by decide), rI_k (by decide), rI_k (by decide)]
          · exact kq_wI rfl (kq_wI rfl (kq_wI rfl (kq_wI rfl (kq_wI rfl (kq_wI rfl (kq_wI rfl (kq_wI rfl (kq_wI rfl kq_r))))))))
        · refine ⟨?_, ?_, ?_, ?_, ?_, ?_, rI_s, fun _ => ?_, fun _ _ _ => rfl, ?_, fun k j x y z => ?_, fun j hj => ?_, ?_⟩
          · rw [rI_k (by decide), rI_k (by decide), rI_k (by decide), rI_k (by decide), rI_k (by decide), rI_k (by decide), rI_k (by decide), rI_k (by decide), rI_k (by decide), rI_k (by decide), rI_s]
          · rw [rI_k (by decide), rI_k (by decide), rI_k (by decide), rI_k (by decide), rI_k (by decide), rI_k (by decide), rI_k (by decide), rI_k (by decide), rI_s]
          · rw [rI_j (by decide), rI_k (by decide), rI_k (by decide), rI_s]
          · rw [rI_k (by decide), rI_k (by decide), rI_s]
          · rw [rI_k (by decide), rI_k (by decide), rI_j (by decide), rI_k (by decide), rI_s]
          · rw [rI_k (by decide), rI_k (by decide), rI_j (by decide), rI_k (by decide), rI_j (by decide), rI_k (by decide), rI_k (by decide), rI_k (by decide), rI_k (by decide), rI_k (by decide), rI_k (by decide)]; exact w1
          · rw [rI_k (by decide), rI_s]
          · exact kq_wI rfl (kq_wI rfl (kq_wI rfl (kq_wI rfl (kq_wI rfl (kq_wI rfl (kq_wI rfl (kq_wI rfl (kq_wI rfl (kq_wI rfl (kq_wI rfl kq_r))))))))))
          · rw [rI_k (by omega), rI_k (by omega), rI_k (by omega), rI_k (by omega), rI_k (by omega), rI_j (by omega), rI_j (by omega), rI_j (by omega), rI_j (by omega), rI_j (by omega), rI_j (by omega)]
          · rw [rI_k (by decide), rI_j (by omega), rI_k (by decide), rI_k (by decide), rI_k (by decide), rI_k (by decide), rI_k (by decide), rI_k (by decide), rI_k (by decide), rI_k (by decide), rI_k (by decide)]
          · exact kq_wI rfl (kq_wI rfl (kq_wI rfl (kq_wI rfl (kq_wI rfl (kq_wI rfl (kq_wI rfl (kq_wI rfl (kq_wI rfl (kq_wI rfl (kq_wI rfl kq_r))))))))))
      obtain ⟨b1, b2, b3, b4, b5, b6, b7, b8, b9, b10, b11, b12', b13⟩ := B1
      have q61 : qR 0 0 61 0 (1470 + 9 * S) = false := by
        apply Bool.eq_false_iff.mpr
        intro z
        unfold qR rk at z
        simp only [Bool.or_eq_true, Bool.and_eq_true, beq_iff_eq, Nat.ble_eq] at z
        omega
      have R2 : RelR B μ2 0 (wI ν2 61 0 (1470 + 9 * S) (sWd K)) 0 := RelR_c w11 (kq_t b13 (kq_m f2.1 qR0_x)) (kq_wI q61 (kq_t (kq_wI rfl kq_r) (kq_m g2 qR0_m))) (Int.le_refl B)
      have RS2 : RS B μ2 (wI ν2 61 0 (1470 + 9 * S) (sWd K)) S Q K := ⟨⟨by rw [f2.2, b9]; exact w9, by rw [f2.2, b9]; exact w10, by rw [(f2.1 10 0 3 rfl).1]; exact b3, by omega, S30⟩, ⟨by rw [(f2.1 43 4 Q rfl).1]; exact b1, by rw [(f2.1 45 4 Q rfl).1]; exact b2, rI_s⟩, R2⟩
      have F2 : FW Q S d μ ν μ2 (wI ν2 61 0 (1470 + 9 * S) (sWd K)) := by
        refine ⟨⟨kq_t b10 (FX_w f2), fun k i j => (f2.2 k i j).trans (b9 k i j), kq_wI (qMw61 _ (by omega)) (kq_t (kq_wI rfl kq_r) (FM_w g2))⟩, fun k j x y z => ?_, fun j hj => ?_, fun j hj => ?_⟩
        · rw [(f2.1 k 4 j (by unfold qXt; simp [show k ≠ 7 by omega])).1]
          exact b11 k j x y z
        · rw [(f2.1 49 0 j rfl).1]
          exact b12' j hj
        · rw [rI_j (by omega), (g2 61 0 j rfl).1, rI_k (by decide)]
      have bad : ∀ {μ' ν' : sM}, FS μ' ν' → FW Q S d μ ν μ' ν' → (X12_readRest (nI (1470 + 9 * S)) (wI ν2 61 0 (1470 + 9 * S) (sWd K)) = some ν' ∨ ∃ ν3, X12_readRest (nI (1470 + 9 * S)) (wI ν2 61 0 (1470 + 9 * S) (sWd K)) = some ν3 ∧ endM ν3 = some ν') → (∀ c, 2 * c ≤ i → Wr c μ = some (0, μ')) → ∃ μ' ν', (∀ c, 2 * c ≤ i → Wr c μ = some (0, μ')) ∧ X12_readStep_ rec (nI d) ν = some ν' ∧ FS μ' ν' ∧ kq qXw μ μ' ∧ kq qMw ν ν' := by
        intro μ' ν' r F hM hX
        obtain ⟨f, f1', f7', q⟩ := FS_b r
        refine ⟨μ', wI ν' 61 0 (1470 + 9 * S + 8) (rI ν' 13 0 26), hX, ?_, FS_61 r, F.1.1, kq_wI (qMw61 _ (by omega)) F.1.2.2⟩
        obtain ⟨w, hw⟩ : ∃ w, fuN = w + 1 := ⟨fuN - 1, by unfold fuN; omega⟩
        have fin : X12_readStep_L142 rec fuN (nI d) (nI fl) (nI (1470 + 9 * S)) ν' = some (wI ν' 61 0 (1470 + 9 * S + 8) (rI ν' 13 0 26)) := by
          rw [hw]
          exact b_192 q f1' f7' S30 f01
        rw [e2]
        show bV (X12_readRest (nI (1470 + 9 * S)) _) _ = _
        rcases hM with hM | ⟨ν3, hM, hM2⟩
        · obtain ⟨y, ey⟩ := so_Sign 59 ν'
          rw [hM, bV_s, ey, bI_s, b_must q f1' f7', bV_s, fin]
        · obtain ⟨y, ey⟩ := so_Sign 59 ν3
          have hM2' : bI (X12_isSign 59 ν3) (fun x ρ' => X12_must x ρ') = some ν' := hM2
          rw [ey, bI_s] at hM2'
          rw [hM, bV_s, ey, bI_s, hM2', bV_s, fin]
      rcases restS C2 RS2 hs with ⟨μ3, ν3, a1, a2, r, f3, g3⟩ | ⟨μ3, ν3, i3, m3, K3, V3, s3, hi3, a1, a2, C3, row, f3, g3⟩
      · refine Or.inl (bad r (FW_t F2 (FW_A (Q := Q) (S := S) (d := d) f3 g3) (by omega) (by omega) (by omega)) (Or.inl a2) (fun c hc => ?_))
        rw [eW c hc, e1, bI_s]
        show (if (1 : Int32) = 0 then _ else _) = _
        rw [if_neg n10, a1, bI_s, if_pos rfl]
      · have F3 : FW Q S d μ ν μ3 ν3 := FW_t F2 (FW_A (Q := Q) (S := S) (d := d) f3 g3) (by omega) (by omega) (by omega)
        have r3 : rR μ3 10 0 1 = 1 := (f3.2 10 0 1).trans RS2.1.1
        rcases takeE C3 with ⟨μ5, ν5, m5, K5, V5, s5, t1, t2, C5, f5, g5⟩ | ⟨μ5, ν5, t1, t2, r, f5, g5⟩
        · have F5 : FW Q S d μ ν μ5 ν5 := FW_t F3 (FW_x (Q := Q) (S := S) (d := d) f5 g5) (by omega) (by omega) (by omega)
          have e61 : ∀ j, rI ν5 61 0 j = rI ν3 61 0 j := fun j => (g5 61 0 j rfl).1
          have xk : ∀ k j, k ≠ 7 → rI μ5 k 4 j = rI μ3 k 4 j := fun k j hk => (f5.1 k 4 j (by unfold qXt; simp [hk])).1
          have a3 : ∀ k i j, (k = 9 ∨ k = 10 ∨ k = 49) → rI μ3 k i j = rI μ2 k i j := fun k i j hk => (f3.1 k i j (by rcases hk with rfl | rfl | rfl <;> rfl)).1
          refine Or.inr ⟨fl, μ5, ν5, i3 + 1, m5, K5, V5, s5, hs, S30, fun z => ⟨hfl z, ?_⟩, by omega, fun c hc => ?_, ?_, C5, ⟨?_, by rw [xk 43 Q (by decide), (f3.1 43 4 Q rfl).1, (f2.1 43 4 Q rfl).1]; exact b1⟩, ⟨⟨?_, ?_, ?_, by omega⟩, ⟨?_, ?_, ?_, ?_⟩, ⟨?_, ?_⟩, ?_⟩, F5⟩
          · rw [(f5.1 49 0 d rfl).1, a3 49 0 d (by omega), (f2.1 49 0 d rfl).1]; exact b8 z
          · rw [eW c hc, e1, bI_s]
            show (if (1 : Int32) = 0 then _ else _) = _
            rw [if_neg n10, a1, bI_s, if_neg n10, r3, if_pos rfl, t1, bI_s, if_neg n10]
          · rw [e2]
            show bV (X12_readRest (nI (1470 + 9 * S)) _) _ = _
            obtain ⟨y, ey⟩ := so_Sign 59 ν3
            have t2' : bI (X12_isSign 59 ν3) (fun x ρ' => X12_must x ρ') = some ν5 := t2
            rw [ey, bI_s] at t2'
            rw [a2, bV_s, ey, bI_s, t2', bV_s]
          · refine Row_t (μ := μ3) (ν := vv ν3) (w := 4) (w' := 4) (b := 0) (b' := 0) (Q := Q + 1) (fun k j x y z => xk k j (by omega)) (fun j hj => ?_) S30 (by omega) row
            have ef : rI ν5 61 0 = rI ν3 61 0 := funext e61
            rw [sC_s, sC_s, ef]
          · rw [xk 9 0 (by decide), a3 9 4 0 (by omega), (f2.1 9 4 0 rfl).1]; exact b6
          · rw [xk 9 1 (by decide), a3 9 4 1 (by omega), (f2.1 9 4 1 rfl).1]; exact b4
          · rw [(g5 13 0 26 rfl).1, (g3 13 0 26 rfl).1, rI_k (by decide), (g2 13 0 26 rfl).1, rI_s]
          · rw [xk 9 2 (by decide), a3 9 4 2 (by omega), (f2.1 9 4 2 rfl).1]; exact b5
          · rw [(f5.1 10 0 4 rfl).1, a3 10 0 4 (by omega), (f2.1 10 0 4 rfl).1]; exact b7
          · by_cases z : fl = 1
            · have := hfl z
              omega
            · omega
          · omega
          · rw [f5.2]; exact r3
          · rw [f5.2, f3.2]; exact RS2.1.2.1
          · have R3 : RelR B μ3 0 ν3 0 := RelR_c R2 (kq_m f3.1 (fun k i j hq => by
                unfold qR rk at hq
                unfold qA1
                by_cases z : k = 7 ∨ (44 ≤ k ∧ k ≤ 47)
                · exfalso
                  simp only [Bool.or_eq_true, Bool.and_eq_true, beq_iff_eq, Nat.ble_eq] at hq
                  omega
                · have z1 : k ≠ 7 := fun q => z (Or.inl q)
                  cases e : ((k == 7 && (Nat.ble 2 j && Nat.ble j 7)) || (Nat.ble 44 k && (Nat.ble k 47 && (i == 4 && j == Q)))) with
                  | false => rfl
                  | true =>
                    exfalso
                    simp only [Bool.or_eq_true, Bool.and_eq_true, beq_iff_eq, Nat.ble_eq] at e
                    rcases e with e | e
                    · exact z1 e.1
                    · exact z (Or.inr ⟨e.1, e.2.1⟩))) (kq_m g3 (fun k i j hq => by
                unfold qR rk at hq
                unfold qB1
                cases e : ((k == 13 && (Nat.ble 12 j && Nat.ble j 19)) || (k == 61 && (Nat.ble (1470 + 9 * S + 1) j && Nat.ble j (1470 + 9 * S + 7)))) with
                | false => rfl
                | true =>
                  exfalso
                  simp only [Bool.or_eq_true, Bool.and_eq_true, beq_iff_eq, Nat.ble_eq] at e hq
                  omega)) (Int.le_refl B)
            exact RelR_c R3 (kq_m f5.1 qR0_x) (kq_m g5 qR0_m) (Int.le_refl B)
        · refine Or.inl (bad r (FW_t F3 (FW_x (Q := Q) (S := S) (d := d) f5 g5) (by omega) (by omega) (by omega)) (Or.inr ⟨ν3, a2, t2⟩) (fun c hc => ?_))
          rw [eW c hc, e1, bI_s]
          show (if (1 : Int32) = 0 then _ else _) = _
          rw [if_neg n10, a1, bI_s, if_neg n10, r3, if_pos rfl, t1, bI_s, if_pos rfl]
end C98v
