/-! 81: what keeps the relation -/
section F81
variable {B B' : Int} {μ μ' ν ν' : sM} {r b w : Nat}
theorem RelF_c (h : RelF μ ν) (a : kq qF μ μ') (c : kq qF ν ν') : RelF μ' ν' := by
  refine ⟨?_, ?_⟩
  · rw [(a 12 0 1 rfl).2, (c 13 0 2 rfl).2]; exact h.1
  · rw [(a 12 0 2 rfl).2, (c 13 0 3 rfl).2]; exact h.2
theorem RelT_c (h : RelT μ ν) (a : kq qT μ μ') (c : kq qT ν ν') : RelT μ' ν' := by
  intro t ht
  rw [(a 42 0 t rfl).1, (c 58 0 t rfl).1, (a 41 0 t rfl).1, (c 57 0 t rfl).1]
  refine ⟨(h t ht).1, (h t ht).2.elim Or.inl (fun z => Or.inr ⟨z.1, z.2.1, z.2.2.1, fun j hj => ?_⟩)⟩
  rw [(a 40 t j rfl).2, (c 59 0 (60 * t + j) rfl).2]
  exact z.2.2.2 j hj
theorem RelP_c (h : RelP μ ν) (a : kq qP μ μ') (c : kq qP ν ν') : RelP μ' ν' := by
  obtain ⟨⟨h1, h2, h3⟩, h4, h5⟩ := h
  refine ⟨⟨?_, ?_, fun j hj => ?_⟩, ?_, ?_⟩
  · rw [(a 7 0 1 rfl).1, (c 13 0 8 rfl).1]; exact h1
  · rw [(c 13 0 8 rfl).1]; exact h2
  · rw [(c 13 0 8 rfl).1] at hj
    rw [(a 35 0 j rfl).1, (c 60 0 j rfl).1]
    exact h3 j hj
  · rw [(a 7 0 2 rfl).1, (c 13 0 10 rfl).1]; exact h4
  · rw [(a 7 0 3 rfl).1, (c 13 0 11 rfl).1]; exact h5
theorem qR_x {k j : Nat} (h : rk k = true) : qR r b k r j = true := by
  unfold qR
  rw [h]
  simp
theorem qR_m {j : Nat} (h : j < 76) : qR r b 61 0 (348 * b + j) = true := by
  unfold qR
  simp only [show ((61 : Nat) == 61) = true from rfl, Nat.ble_eq_true_of_le (show 348 * b ≤ 348 * b + j by omega), Nat.ble_eq_true_of_le (show 348 * b + j ≤ 348 * b + 75 by omega), Bool.and_self, Bool.true_or, Bool.or_true]
theorem qN_x {k j : Nat} (h : k = 28 ∨ k = 24 ∨ k = 50) : qN r b k r j = true := by
  unfold qN
  rcases h with rfl | rfl | rfl <;> simp
theorem qN_w {j : Nat} (h : j < 18) : qN r b 64 0 (18 * b + j) = true := by
  unfold qN
  simp only [show ((64 : Nat) == 64) = true from rfl, Nat.ble_eq_true_of_le (show 18 * b ≤ 18 * b + j by omega), Nat.ble_eq_true_of_le (show 18 * b + j ≤ 18 * b + 17 by omega), Bool.and_self, Bool.true_or, Bool.or_true]
theorem qN_c0 : qN r b 61 0 (348 * b) = true := by unfold qN; simp
theorem qN_c1 : qN r b 61 0 (348 * b + 1) = true := by unfold qN; simp
theorem qN_c2 : qN r b 61 0 (348 * b + 2) = true := by unfold qN; simp
theorem RelN_c (h : RelN μ r ν b) (a : kq (qN r b) μ μ') (c : kq (qN r b) ν ν') (h0 : (rI ν 61 0 (348 * b)).toInt ≤ 6) (h1 : (rI ν 61 0 (348 * b + 1)).toInt ≤ 6) (h2 : (rI ν 61 0 (348 * b + 2)).toInt ≤ 6) : RelN μ' r ν' b := by
  refine ⟨fun j hj => ?_, fun j hj => ?_, fun j hj => ?_⟩
  · rw [(c 61 0 _ qN_c0).1] at hj
    rw [(a 28 r j (qN_x (Or.inl rfl))).2, (c 64 0 _ (qN_w (by omega))).2]
    exact h.1 j hj
  · rw [(c 61 0 _ qN_c1).1] at hj
    have e := (c 64 0 _ (qN_w (b := b) (r := r) (j := 6 + j) (by omega))).2
    rw [← Nat.add_assoc] at e
    rw [(a 24 r j (qN_x (Or.inr (Or.inl rfl)))).2, e]
    exact h.2.1 j hj
  · rw [(c 61 0 _ qN_c2).1] at hj
    have e := (c 64 0 _ (qN_w (b := b) (r := r) (j := 12 + j) (by omega))).2
    rw [← Nat.add_assoc] at e
    rw [(a 50 r j (qN_x (Or.inr (Or.inr rfl)))).2, e]
    exact h.2.2 j hj
theorem OkR_mono {f : Nat → Int32} (h : OkR B f) (hb : B ≤ B') : OkR B' f := by
  refine ⟨h.1, h.2.1, fun j hj => ?_, h.2.2.2⟩
  have z := h.2.2.1 j hj
  unfold rg at z ⊢
  omega
theorem Riv_c {f g : Nat → Int32} (h : Riv μ r f) (a : ∀ k j, rk k = true → rI μ' k r j = rI μ k r j ∧ rL μ' k r j = rL μ k r j) (e : ∀ j, j < 76 → g j = f j) (h0 : (f 0).toInt ≤ 6) (h1 : (f 1).toInt ≤ 6) (h2 : (f 2).toInt ≤ 6) : Riv μ' r g := by
  obtain ⟨⟨c0, c1, c2, c3, c4, c5, c6, c7, c8, c9⟩, hw, hr, hm, hd⟩ := h
  refine ⟨⟨?_, ?_, ?_, ?_, ?_, ?_, ?_, ?_, ?_, ?_⟩, fun j hj => ?_, fun j hj => ?_, fun j hj => ?_, fun j hj => ?_⟩
  · rw [(a 4 0 rfl).1, e 0 (by omega)]; exact c0
  · rw [(a 3 0 rfl).1, e 1 (by omega)]; exact c1
  · rw [(a 11 0 rfl).1, e 2 (by omega)]; exact c2
  · rw [(a 5 1 rfl).1, e 3 (by omega)]; exact c3
  · rw [(a 5 2 rfl).1, e 4 (by omega)]; exact c4
  · rw [(a 5 3 rfl).1, e 5 (by omega)]; exact c5
  · rw [(a 5 4 rfl).1, e 6 (by omega)]; exact c6
  · rw [(a 5 6 rfl).1, e 7 (by omega)]; exact c7
  · rw [(a 5 5 rfl).1, e 8 (by omega)]; exact c8
  · rw [(a 5 0 rfl).1, e 9 (by omega)]; exact c9
  · rw [(a 34 j rfl).2, e (10 + j) (by omega)]; exact hw j hj
  · rw [e 0 (by omega)] at hj
    rw [(a 29 j rfl).1, (a 30 j rfl).1, (a 31 j rfl).1, e (16 + j) (by omega), e (22 + j) (by omega), e (28 + j) (by omega)]; exact hr j hj
  · rw [e 1 (by omega)] at hj
    rw [(a 25 j rfl).1, (a 26 j rfl).1, (a 27 j rfl).1, e (34 + j) (by omega), e (40 + j) (by omega), e (46 + j) (by omega)]; exact hm j hj
  · rw [e 2 (by omega)] at hj
    rw [(a 51 j rfl).1, (a 52 j rfl).1, (a 53 j rfl).1, (a 54 j rfl).1, e (52 + j) (by omega), e (58 + j) (by omega), e (64 + j) (by omega), e (70 + j) (by omega)]; exact hd j hj
theorem OkR_c {f g : Nat → Int32} (h : OkR B f) (e : ∀ j, j < 76 → g j = f j) : OkR B g := by
  have h' := h
  obtain ⟨⟨a0, a1, a2⟩, ⟨b3, b4, b5, b6, b7, b8, b9⟩, hw, hr, hml, hwd⟩ := h'
  unfold rg at a0 a1 a2
  refine ⟨⟨?_, ?_, ?_⟩, ⟨?_, ?_, ?_, ?_, ?_, ?_, ?_⟩, fun j hj => ?_, fun j hj => ?_, fun j hj => ?_, fun j hj => ?_⟩
  · rw [e 0 (by omega)]; exact a0
  · rw [e 1 (by omega)]; exact a1
  · rw [e 2 (by omega)]; exact a2
  · rw [e 3 (by omega)]; exact b3
  · rw [e 4 (by omega)]; exact b4
  · rw [e 5 (by omega)]; exact b5
  · rw [e 6 (by omega)]; exact b6
  · rw [e 7 (by omega)]; exact b7
  · rw [e 8 (by omega)]; exact b8
  · rw [e 9 (by omega)]; exact b9
  · rw [e (10 + j) (by omega), e 6 (by omega)]; exact hw j hj
  · rw [e 0 (by omega)] at hj
    rw [e (16 + j) (by omega), e (22 + j) (by omega), e (28 + j) (by omega)]; exact hr j hj
  · rw [e 1 (by omega)] at hj
    rw [e (34 + j) (by omega), e (40 + j) (by omega), e (46 + j) (by omega), e 0 (by omega), e 6 (by omega)]; exact hml j hj
  · rw [e 2 (by omega)] at hj
    rw [e (52 + j) (by omega), e (58 + j) (by omega)]; exact hwd j hj
theorem RelR_c (h : RelR B μ r ν b) (a : kq (qR r b) μ μ') (c : kq (qR r b) ν ν') (hb : B ≤ B') : RelR B' μ' r ν' b := by
  obtain ⟨h1, h2, h3, h4⟩ := h
  have e : ∀ j, j < 76 → rI ν' 61 0 (348 * b + j) = rI ν 61 0 (348 * b + j) := fun j hj => (c 61 0 _ (qR_m hj)).1
  have u0 := h2.1.1
  have u1 := h2.1.2.1
  have u2 := h2.1.2.2
  unfold rg at u0 u1 u2
  refine ⟨Riv_c h1 (fun k j hk => a k r j (qR_x hk)) e u0.2 u1.2 u2.2, OkR_mono (OkR_c h2 e) hb, RelN_c h3 (kq_m a ?_) (kq_m c ?_) u0.2 u1.2 u2.2, by rw [e 6 (by omega)]; exact h4⟩
  · intro k i j hq
    unfold qN at hq
    unfold qR
    simp only [Bool.or_eq_true, Bool.and_eq_true, beq_iff_eq, Nat.ble_eq] at hq ⊢
    rcases hq with ⟨hi, hk⟩ | hq | ⟨hk, hj⟩
    · refine Or.inl ⟨hi, ?_⟩
      rcases hk with rfl | rfl | rfl <;> rfl
    · exact Or.inr (Or.inr hq)
    · exact Or.inr (Or.inl ⟨hk, by omega⟩)
  · intro k i j hq
    unfold qN at hq
    unfold qR
    simp only [Bool.or_eq_true, Bool.and_eq_true, beq_iff_eq, Nat.ble_eq] at hq ⊢
    rcases hq with ⟨hi, hk⟩ | hq | ⟨hk, hj⟩
    · refine Or.inl ⟨hi, ?_⟩
      rcases hk with rfl | rfl | rfl <;> rfl
    · exact Or.inr (Or.inr hq)
    · exact Or.inr (Or.inl ⟨hk, by omega⟩)
theorem qW_x {k j : Nat} (h : k = 9 ∨ (43 ≤ k ∧ k ≤ 48)) : qW w b k w j = true := by
  unfold qW
  simp only [Bool.or_eq_true, Bool.and_eq_true, beq_iff_eq, Nat.ble_eq]
  exact Or.inl ⟨trivial, h⟩
theorem qW_m {j : Nat} (h : 76 ≤ j ∧ j < 348) : qW w b 61 0 (348 * b + j) = true := by
  unfold qW
  simp only [Bool.or_eq_true, Bool.and_eq_true, beq_iff_eq, Nat.ble_eq]
  exact Or.inr ⟨trivial, Or.inl (by omega)⟩
theorem qW_c {j : Nat} (h : j < 3) : qW w b 61 0 (348 * b + j) = true := by
  unfold qW
  simp only [Bool.or_eq_true, Bool.and_eq_true, beq_iff_eq, Nat.ble_eq]
  exact Or.inr ⟨trivial, Or.inr (by omega)⟩
theorem Row_c {s p : Nat} (h : RowR μ w ν b s p) (a : kq (qW w b) μ μ') (c : kq (qW w b) ν ν') (hs : s < 30) : RowR μ' w ν' b s p := by
  have es : ∀ x, x < 9 → stp ν' b s x = stp ν b s x := by
    intro x hx
    unfold stp
    have := (c 61 0 (348 * b + (78 + 9 * s + x)) (qW_m (by omega))).1
    simp only [← Nat.add_assoc] at this
    exact this
  have e0 := (c 61 0 (348 * b + 0) (qW_c (by omega))).1
  rw [Nat.add_zero] at e0
  unfold RowR
  rw [es 0 (by omega), es 1 (by omega), es 2 (by omega), es 6 (by omega), es 7 (by omega), (a 43 w p (qW_x (by omega))).1, (a 44 w p (qW_x (by omega))).1, (a 45 w p (qW_x (by omega))).1, (a 46 w p (qW_x (by omega))).1, (a 47 w p (qW_x (by omega))).1, e0, (c 61 0 (348 * b + 1) (qW_c (by omega))).1, (c 61 0 (348 * b + 2) (qW_c (by omega))).1]
  exact h
theorem Seg_c (a : kq (qW w b) μ μ') (c : kq (qW w b) ν ν') : ∀ (n d s e p q : Nat), e ≤ 30 → Seg μ w ν b n d s e p q → Seg μ' w ν' b n d s e p q
  | 0, d, s, e, p, q, _, h => h
  | n + 1, d, s, e, p, q, he, h => by
    rcases h with h | ⟨h1, h2, h3, h4⟩
    · exact Or.inl h
    · have es : ∀ x, x < 9 → stp ν' b s x = stp ν b s x := by
        intro x hx
        unfold stp
        have := (c 61 0 (348 * b + (78 + 9 * s + x)) (qW_m (by omega))).1
        simp only [← Nat.add_assoc] at this
        exact this
      refine Or.inr ⟨h1, h2, Row_c h3 a c (by omega), ?_⟩
      rw [es 0 (by omega), es 8 (by omega)]
      rcases h4 with ⟨g1, g2, g3, g4⟩ | ⟨g1, e1, p1, g2, g3, g4, g5, g6, g7, g8, g9, g10, g11⟩
      · exact Or.inl ⟨g1, g2, g3, Seg_c a c n _ _ _ _ _ he g4⟩
      · refine Or.inr ⟨g1, e1, p1, g2, g3, g4, g5, g6, ⟨g7.1, Seg_c a c n _ _ _ _ _ (by omega) g7.2⟩, ?_, ?_, ?_, Seg_c a c n _ _ _ _ _ he g11⟩
        · rw [(a 43 w p1 (qW_x (by omega))).1]; exact g8
        · rw [(a 48 w p1 (qW_x (by omega))).1]; exact g9
        · rw [(a 48 w p (qW_x (by omega))).1]; exact g10
theorem RelW_c (h : RelW μ w ν b) (a : kq (qW w b) μ μ') (c : kq (qW w b) ν ν') : RelW μ' w ν' b := by
  obtain ⟨h1, h2, h3, h4⟩ := h
  refine ⟨?_, ?_, ?_, ?_⟩
  · rw [(a 9 w 0 (qW_x (Or.inl rfl))).1, (c 61 0 _ (qW_m (j := 76) (by omega))).1]; exact h1
  · rw [(a 9 w 1 (qW_x (Or.inl rfl))).1, (c 61 0 _ (qW_m (j := 77) (by omega))).1]; exact h2
  · rw [(a 9 w 0 (qW_x (Or.inl rfl))).1, (a 9 w 1 (qW_x (Or.inl rfl))).1, (a 9 w 2 (qW_x (Or.inl rfl))).1]
    rcases h3 with h3 | ⟨h3, S, p, g1, g2, g3, g4, g5⟩
    · exact Or.inl h3
    · exact Or.inr ⟨h3, S, p, g1, g2, g3, g4, Seg_c a c 30 3 0 S 0 p g2 g5⟩
  · rw [(a 9 w 2 (qW_x (Or.inl rfl))).1]; exact h4
theorem RelV_c (h : RelV μ ν) (a : kq qV μ μ') (c : kq qV ν ν') : RelV μ' ν' := by
  obtain ⟨h1, h2, h3⟩ := h
  refine ⟨?_, ?_, ?_⟩
  · rw [(a 2 0 0 rfl).1, (c 13 0 40 rfl).1]; exact h1
  · rw [(c 13 0 40 rfl).1]; exact h2
  · rw [(c 13 0 40 rfl).1, (a 2 0 2 rfl).1, (a 2 0 3 rfl).1, (a 2 0 4 rfl).1, (a 2 0 5 rfl).1, (a 2 0 6 rfl).1, (c 71 0 0 rfl).1, (c 71 0 1 rfl).1, (c 71 0 2 rfl).1, (c 71 0 3 rfl).1, (c 71 0 4 rfl).1]; exact h3
/-- MARKS' cells -/
def qK (k i j : Nat) : Bool := (k == 12 && j == 3) || ((k == 13 && j == 24) || ((Nat.ble 1 i && (Nat.ble i 3 && (rk k || (k == 9 || (Nat.ble 43 k && Nat.ble k 48))))) || ((k == 61 && (Nat.ble 348 j && Nat.ble j 1391)) || (k == 64 && (Nat.ble 18 j && Nat.ble j 71)))))
theorem qK_R {i : Nat} (h : i < 3) : ∀ k q j, qR (1 + i) (1 + i) k q j = true → qK k q j = true := by
  intro k q j hq
  unfold qR at hq
  unfold qK
  simp only [Bool.or_eq_true, Bool.and_eq_true, beq_iff_eq, Nat.ble_eq] at hq ⊢
  rcases hq with ⟨a, b⟩ | ⟨a, b⟩ | ⟨a, b⟩
  · exact Or.inr (Or.inr (Or.inl ⟨by omega, by omega, Or.inl b⟩))
  · exact Or.inr (Or.inr (Or.inr (Or.inl ⟨a, by omega⟩)))
  · exact Or.inr (Or.inr (Or.inr (Or.inr ⟨a, by omega⟩)))
theorem qK_W {i : Nat} (h : i < 3) : ∀ k q j, qW (1 + i) (1 + i) k q j = true → qK k q j = true := by
  intro k q j hq
  unfold qW at hq
  unfold qK
  simp only [Bool.or_eq_true, Bool.and_eq_true, beq_iff_eq, Nat.ble_eq] at hq ⊢
  rcases hq with ⟨a, b⟩ | ⟨a, b⟩
  · exact Or.inr (Or.inr (Or.inl ⟨by omega, by omega, Or.inr b⟩))
  · exact Or.inr (Or.inr (Or.inr (Or.inl ⟨a, by omega⟩)))
theorem RelK_c (h : RelK B μ ν) (a : kq qK μ μ') (c : kq qK ν ν') (hb : B ≤ B') : RelK B' μ' ν' := by
  obtain ⟨h1, k, h2, h3, h4⟩ := h
  refine ⟨?_, k, ?_, h3, fun i hi => ⟨RelR_c (h4 i hi).1 (kq_m a (qK_R (by omega))) (kq_m c (qK_R (by omega))) hb, RelW_c (h4 i hi).2 (kq_m a (qK_W (by omega))) (kq_m c (qK_W (by omega)))⟩⟩
  · rw [(a 12 0 3 rfl).1, (c 13 0 24 rfl).1]; exact h1
  · rw [(c 13 0 24 rfl).1]; exact h2
/-- all but STATUS and the numbers of the river that is now -/
def qA (k i j : Nat) : Bool := qF k i j || (qT k i j || (qP k i j || (qN 0 0 k i j || (qW 0 0 k i j || (qK k i j || qV k i j)))))
def RelX (B : Int) (μ ν : sM) : Prop := RelF μ ν ∧ RelT μ ν ∧ RelP μ ν ∧ RelN μ 0 ν 0 ∧ RelW μ 0 ν 0 ∧ RelK B μ ν ∧ RelV μ ν
theorem RelX_c (h : RelX B μ ν) (ok : OkR B (rI ν 61 0)) (a : kq qA μ μ') (c : kq qA ν ν') (hb : B ≤ B') : RelX B' μ' ν' := by
  obtain ⟨h1, h2, h3, h4, h5, h6, h7⟩ := h
  have u0 := ok.1.1
  have u1 := ok.1.2.1
  have u2 := ok.1.2.2
  unfold rg at u0 u1 u2
  have m1 : ∀ k i j, qF k i j = true → qA k i j = true := fun k i j h => by unfold qA; simp [h]
  have m2 : ∀ k i j, qT k i j = true → qA k i j = true := fun k i j h => by unfold qA; simp [h]
  have m3 : ∀ k i j, qP k i j = true → qA k i j = true := fun k i j h => by unfold qA; simp [h]
  have m4 : ∀ k i j, qN 0 0 k i j = true → qA k i j = true := fun k i j h => by unfold qA; simp [h]
  have m5 : ∀ k i j, qW 0 0 k i j = true → qA k i j = true := fun k i j h => by unfold qA; simp [h]
  have m6 : ∀ k i j, qK k i j = true → qA k i j = true := fun k i j h => by unfold qA; simp [h]
  have m7 : ∀ k i j, qV k i j = true → qA k i j = true := fun k i j h => by unfold qA; simp [h]
  exact ⟨RelF_c h1 (kq_m a m1) (kq_m c m1), RelT_c h2 (kq_m a m2) (kq_m c m2), RelP_c h3 (kq_m a m3) (kq_m c m3), RelN_c h4 (kq_m a m4) (kq_m c m4) u0.2 u1.2 u2.2, RelW_c h5 (kq_m a m5) (kq_m c m5), RelK_c h6 (kq_m a m6) (kq_m c m6) hb, RelV_c h7 (kq_m a m7) (kq_m c m7)⟩
theorem b0 (f : Nat → Int32) : (fun j => f (348 * 0 + j)) = f := funext fun j => by rw [Nat.mul_zero, Nat.zero_add]
theorem Rel_i (h : Rel B μ ν) : rI μ 12 0 0 = rI ν 13 0 0 ∧ Riv μ 0 (rI ν 61 0) ∧ OkR B (rI ν 61 0) ∧ (rI ν 61 0 6).toInt ≤ 9999 ∧ RelX B μ ν := by
  obtain ⟨h0, h1, h2, h3, ⟨h4, h5, h6, h6'⟩, h7, h8, h9⟩ := h
  rw [b0] at h4 h5
  exact ⟨h0, h4, h5, h6', h1, h2, h3, h6, h7, h8, h9⟩
theorem Rel_m (h0 : rI μ 12 0 0 = rI ν 13 0 0) (h4 : Riv μ 0 (rI ν 61 0)) (h5 : OkR B (rI ν 61 0)) (h6' : (rI ν 61 0 6).toInt ≤ 9999) (hx : RelX B μ ν) : Rel B μ ν := by
  obtain ⟨h1, h2, h3, h6, h7, h8, h9⟩ := hx
  exact ⟨h0, h1, h2, h3, ⟨by rw [b0]; exact h4, by rw [b0]; exact h5, h6, h6'⟩, h7, h8, h9⟩
/-- all that the relation speaks of, but STATUS -/
def qB (k i j : Nat) : Bool := qA k i j || qR 0 0 k i j
theorem Rel_q (h : Rel B μ ν) (a : kq qB μ μ') (c : kq qB ν ν') (s : rI μ' 12 0 0 = rI ν' 13 0 0) (hb : B ≤ B') : Rel B' μ' ν' := by
  have hi := Rel_i h
  have a1 : kq qA μ μ' := kq_m a (fun k i j z => by unfold qB; simp [z])
  have c1 : kq qA ν ν' := kq_m c (fun k i j z => by unfold qB; simp [z])
  have a2 : kq (qR 0 0) μ μ' := kq_m a (fun k i j z => by unfold qB; simp [z])
  have c2 : kq (qR 0 0) ν ν' := kq_m c (fun k i j z => by unfold qB; simp [z])
  obtain ⟨h0, h1, h2, h3, h4, h5, h6, h7⟩ := h
  obtain ⟨g1, g2, g3, g4, g5, g6, g7⟩ := RelX_c hi.2.2.2.2 hi.2.2.1 a1 c1 hb
  exact ⟨s, g1, g2, g3, RelR_c h4 a2 c2 hb, g5, g6, g7⟩
end F81
