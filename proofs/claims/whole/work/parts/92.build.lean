/-! 92: build -/
section C92
variable {B : Int} {μ ν μ' ν' : sM} {w b : Nat}
def qW' (w b k i j : Nat) : Bool := (i == w && (k == 9 || (Nat.ble 43 k && Nat.ble k 48))) || (k == 61 && (Nat.ble (348 * b + 76) j && Nat.ble j (348 * b + 347)))
theorem qW_x' {k j : Nat} (h : k = 9 ∨ (43 ≤ k ∧ k ≤ 48)) : qW' w b k w j = true := by
  unfold qW'
  simp only [Bool.or_eq_true, Bool.and_eq_true, beq_iff_eq, Nat.ble_eq]
  exact Or.inl ⟨trivial, h⟩
theorem qW_m' {j : Nat} (h : 76 ≤ j ∧ j < 348) : qW' w b 61 0 (348 * b + j) = true := by
  unfold qW'
  simp only [Bool.or_eq_true, Bool.and_eq_true, beq_iff_eq, Nat.ble_eq]
  exact Or.inr ⟨trivial, (by omega)⟩
theorem Row_g {s p : Nat} (h : RowR μ w ν b s p) (a : kq (qW' w b) μ μ') (c : kq (qW' w b) ν ν') (g0 : (rI ν 61 0 (348 * b)).toInt ≤ (rI ν' 61 0 (348 * b)).toInt) (g1 : (rI ν 61 0 (348 * b + 1)).toInt ≤ (rI ν' 61 0 (348 * b + 1)).toInt) (g2 : (rI ν 61 0 (348 * b + 2)).toInt ≤ (rI ν' 61 0 (348 * b + 2)).toInt) (hs : s < 30) : RowR μ' w ν' b s p := by
  have es : ∀ x, x < 9 → stp ν' b s x = stp ν b s x := by
    intro x hx
    unfold stp
    have := (c 61 0 (348 * b + (78 + 9 * s + x)) (qW_m' (by omega))).1
    simp only [← Nat.add_assoc] at this
    exact this
  unfold RowR
  rw [es 0 (by omega), es 1 (by omega), es 2 (by omega), es 6 (by omega), es 7 (by omega), (a 43 w p (qW_x' (by omega))).1, (a 44 w p (qW_x' (by omega))).1, (a 45 w p (qW_x' (by omega))).1, (a 46 w p (qW_x' (by omega))).1, (a 47 w p (qW_x' (by omega))).1]
  rcases h with h | ⟨x1, x2, x3, x4, x5, x6, x7⟩ | h | ⟨x1, x2, x3, x4, x5, x6, x7⟩ | h | h | h | ⟨x1, x2, x3⟩ | h | h
  · exact Or.inl h
  · exact Or.inr (Or.inl ⟨x1, x2, x3, x4, x5, x6, by omega⟩)
  · exact Or.inr (Or.inr (Or.inl h))
  · exact Or.inr (Or.inr (Or.inr (Or.inl ⟨x1, x2, x3, x4, x5, x6, by omega⟩)))
  · exact Or.inr (Or.inr (Or.inr (Or.inr (Or.inl h))))
  · exact Or.inr (Or.inr (Or.inr (Or.inr (Or.inr (Or.inl h)))))
  · exact Or.inr (Or.inr (Or.inr (Or.inr (Or.inr (Or.inr (Or.inl h))))))
  · refine Or.inr (Or.inr (Or.inr (Or.inr (Or.inr (Or.inr (Or.inr (Or.inl ⟨x1, x2, ?_⟩)))))))
    rcases x3 with y | ⟨y1, y2, y3, y4, y5, y6, y7, y8⟩ | ⟨y1, y2, y3, y4, y5, y6, y7, y8⟩
    · exact Or.inl y
    · exact Or.inr (Or.inl ⟨y1, y2, y3, y4, y5, y6, by omega, y8⟩)
    · exact Or.inr (Or.inr ⟨y1, y2, y3, y4, y5, y6, by omega, y8⟩)
  · exact Or.inr (Or.inr (Or.inr (Or.inr (Or.inr (Or.inr (Or.inr (Or.inr (Or.inl h))))))))
  · exact Or.inr (Or.inr (Or.inr (Or.inr (Or.inr (Or.inr (Or.inr (Or.inr (Or.inr h))))))))
theorem Seg_g (a : kq (qW' w b) μ μ') (c : kq (qW' w b) ν ν') (g0 : (rI ν 61 0 (348 * b)).toInt ≤ (rI ν' 61 0 (348 * b)).toInt) (g1 : (rI ν 61 0 (348 * b + 1)).toInt ≤ (rI ν' 61 0 (348 * b + 1)).toInt) (g2 : (rI ν 61 0 (348 * b + 2)).toInt ≤ (rI ν' 61 0 (348 * b + 2)).toInt) : ∀ (n d s e p q : Nat), e ≤ 30 → Seg μ w ν b n d s e p q → Seg μ' w ν' b n d s e p q
  | 0, d, s, e, p, q, _, h => h
  | n + 1, d, s, e, p, q, he, h => by
    rcases h with h | ⟨h1, h2, h3, h4⟩
    · exact Or.inl h
    · have es : ∀ x, x < 9 → stp ν' b s x = stp ν b s x := by
        intro x hx
        unfold stp
        have := (c 61 0 (348 * b + (78 + 9 * s + x)) (qW_m' (by omega))).1
        simp only [← Nat.add_assoc] at this
        exact this
      refine Or.inr ⟨h1, h2, Row_g h3 a c g0 g1 g2 (by omega), ?_⟩
      rw [es 0 (by omega), es 8 (by omega)]
      rcases h4 with ⟨g1', g2', g3, g4⟩ | ⟨g1', e1, p1, g2', g3, g4, g5, g6, g7, g8, g9, g10, g11⟩
      · exact Or.inl ⟨g1', g2', g3, Seg_g a c g0 g1 g2 n _ _ _ _ _ he g4⟩
      · refine Or.inr ⟨g1', e1, p1, g2', g3, g4, g5, g6, ⟨g7.1, Seg_g a c g0 g1 g2 n _ _ _ _ _ (by omega) g7.2⟩, ?_, ?_, ?_, Seg_g a c g0 g1 g2 n _ _ _ _ _ he g11⟩
        · rw [(a 43 w p1 (qW_x' (by omega))).1]; exact g8
        · rw [(a 48 w p1 (qW_x' (by omega))).1]; exact g9
        · rw [(a 48 w p (qW_x' (by omega))).1]; exact g10
theorem RelW_g (h : RelW μ w ν b) (a : kq (qW' w b) μ μ') (c : kq (qW' w b) ν ν') (g0 : (rI ν 61 0 (348 * b)).toInt ≤ (rI ν' 61 0 (348 * b)).toInt) (g1 : (rI ν 61 0 (348 * b + 1)).toInt ≤ (rI ν' 61 0 (348 * b + 1)).toInt) (g2 : (rI ν 61 0 (348 * b + 2)).toInt ≤ (rI ν' 61 0 (348 * b + 2)).toInt) : RelW μ' w ν' b := by
  obtain ⟨h1, h2, h3, h4⟩ := h
  refine ⟨?_, ?_, ?_, ?_⟩
  · rw [(a 9 w 0 (qW_x' (Or.inl rfl))).1, (c 61 0 _ (qW_m' (j := 76) (by omega))).1]; exact h1
  · rw [(a 9 w 1 (qW_x' (Or.inl rfl))).1, (c 61 0 _ (qW_m' (j := 77) (by omega))).1]; exact h2
  · rw [(a 9 w 0 (qW_x' (Or.inl rfl))).1, (a 9 w 1 (qW_x' (Or.inl rfl))).1, (a 9 w 2 (qW_x' (Or.inl rfl))).1]
    rcases h3 with h3 | ⟨h3, S, p, y1, y2, y3, y4, y5⟩
    · exact Or.inl h3
    · exact Or.inr ⟨h3, S, p, y1, y2, y3, y4, Seg_g a c g0 g1 g2 30 3 0 S 0 p y2 y5⟩
  · rw [(a 9 w 2 (qW_x' (Or.inl rfl))).1]; exact h4
theorem nm0 : nmR 0 0 := ⟨[], by simp, by simp, rfl, rfl⟩
theorem m_build (a c : Int32) : BoI B (X11_build a c) (X12_build a c) := fun μ ν h => by
  obtain ⟨-, hR, ok, h9, hx⟩ := Rel_i h
  have u0 := ok.1.1
  have u1 := ok.1.2.1
  have u2 := ok.1.2.2
  unfold rg at u0 u1 u2
  have e0 : rI μ 4 0 0 = rI ν 61 0 0 := hR.1.1
  have e1 : rI μ 3 0 0 = rI ν 61 0 1 := hR.1.2.1
  unfold X11_build X12_build
  rw [hasR_e, bI_s, isR_e _ _ (by rw [m0_k (by decide)]; omega), bI_s, e0, m0_k (by decide)]
  by_cases c1 : 0 ≤ a.toInt ∧ a.toInt < (rI ν 61 0 0).toInt
  · rw [if_pos c1, if_neg n10, if_neg n10, isIn_i, bI_s, show (1 : Int64).toInt = 1 from rfl, show (99 : Int64).toInt = 99 from rfl]
    simp only [lt_i, le_i, t1, show (99 : Int32).toInt = 99 from rfl, show (6 : Int32).toInt = 6 from rfl]
    by_cases c2 : 1 ≤ c.toInt ∧ c.toInt ≤ 99
    · obtain ⟨m, hm, m6, hm'⟩ := rg_nI (b := 6) ok.1.2.1
      rw [if_neg (show ¬ c.toInt < 1 by omega), if_pos c2.2, if_pos c2, if_neg n10, e1, m0_k (by decide)]
      by_cases c3 : (rI ν 61 0 1).toInt < 6
      · have i6 : inb (nI m) 6 = true := inb_nI (by omega) (by omega)
        have i34 : inb (nI (34 + m)) 1740 = true := inb_nI (by omega) (by omega)
        have i40 : inb (nI (40 + m)) 1740 = true := inb_nI (by omega) (by omega)
        have i46 : inb (nI (46 + m)) 1740 = true := inb_nI (by omega) (by omega)
        have i9 : inb (nI (6 + m)) 90 = true := inb_nI (by omega) (by omega)
        have l6 : (6 : Int32) + nI m = nI (6 + m) := nI_add 6 m
        have cn : ¬ rI ν 61 0 1 = 6 := fun q => by rw [q] at c3; exact absurd c3 (by decide +kernel)
        have n6 : ¬ (6 : Int32) ≤ nI m := nI_ge (a := m) (b := 6) (by omega) (by omega)
        rw [if_pos c3, if_neg cn, hm, l34, l40, l46, l6, if_pos i34, if_pos i40, if_pos i46, if_pos i9, ix_nI (show 34 + m < 2 ^ 31 by omega), ix_nI (show 40 + m < 2 ^ 31 by omega), ix_nI (show 46 + m < 2 ^ 31 by omega), ix_nI (show 6 + m < 2 ^ 31 by omega)]
        unfold X2_add
        rw [e1, hm, if_neg n6, if_pos i6, if_pos i6, if_pos i6, if_pos i6, ix_nI (show m < 2 ^ 31 by omega), bV_s]
        rw [rI_j (show (1 : Nat) ≠ 46 + m by omega), rI_j (show (1 : Nat) ≠ 40 + m by omega), rI_j (show (1 : Nat) ≠ 34 + m by omega), m0_k (by decide), hm, nI_1]
        have em : nI (m + 1) - 1 = nI m := nI_pred m
        have tm1 := nI_toInt (n := m + 1) (by omega)
        have ec : rI (wI (wL (wI (wI (wI (m0 ν) 61 0 (34 + m) a) 61 0 (40 + m) c) 61 0 (46 + m) 0) 64 0 (6 + m) 0) 61 0 1 (nI (m + 1))) 61 0 = upd (upd (upd (upd (rI ν 61 0) (34 + m) a) (40 + m) c) (46 + m) 0) 1 (nI (m + 1)) := by
          rw [wI_upd]
          show upd (rI (wI (wI (wI (m0 ν) 61 0 (34 + m) a) 61 0 (40 + m) c) 61 0 (46 + m) 0) 61 0) 1 _ = _
          rw [wI_upd, wI_upd, wI_upd, m0_c]
        have un : ∀ j, j ≠ 1 → j ≠ 34 + m → j ≠ 40 + m → j ≠ 46 + m → upd (upd (upd (upd (rI ν 61 0) (34 + m) a) (40 + m) c) (46 + m) 0) 1 (nI (m + 1)) j = rI ν 61 0 j := fun j a b c d => by rw [upd_n a, upd_n d, upd_n c, upd_n b]
        have u_1 : upd (upd (upd (upd (rI ν 61 0) (34 + m) a) (40 + m) c) (46 + m) 0) 1 (nI (m + 1)) 1 = nI (m + 1) := upd_s
        have u_34 : upd (upd (upd (upd (rI ν 61 0) (34 + m) a) (40 + m) c) (46 + m) 0) 1 (nI (m + 1)) (34 + m) = a := by rw [upd_n (by omega), upd_n (by omega), upd_n (by omega), upd_s]
        have u_40 : upd (upd (upd (upd (rI ν 61 0) (34 + m) a) (40 + m) c) (46 + m) 0) 1 (nI (m + 1)) (40 + m) = c := by rw [upd_n (by omega), upd_n (by omega), upd_s]
        have u_46 : upd (upd (upd (upd (rI ν 61 0) (34 + m) a) (40 + m) c) (46 + m) 0) 1 (nI (m + 1)) (46 + m) = 0 := by rw [upd_n (by omega), upd_s]
        have b6 := ok.2.1.2.2.2.1
        unfold rg at b6
        refine ⟨nI m, wI (wI (wI (wI (wI (wL μ 24 0 m 0) 25 0 m a) 26 0 m c) 27 0 m 0) 3 0 0 (nI (m + 1))) 12 0 0 0, _, ?_, rfl, Rel_z h ?_ ?_ ?_ ⟨?_, ?_, ?_, ?_⟩ (RelW_g h.2.2.2.2.2.1 ?_ ?_ ?_ ?_ ?_) (by omega)⟩
        · rw [rI_s, em]; rfl
        · exact kq_wI rfl (kq_wI rfl (kq_wI rfl (kq_wI rfl (kq_wI rfl (kq_wL rfl kq_r)))))
        · have qc : ∀ j, j < 76 → qZ 61 0 j = false := by
            intro j hj
            apply Bool.eq_false_iff.mpr
            intro z
            unfold qZ qF qT qP qV qK at z
            simp only [Bool.or_eq_true, Bool.and_eq_true, beq_iff_eq, Nat.ble_eq, rk] at z
            omega
          have qn : qZ 64 0 (6 + m) = false := by
            apply Bool.eq_false_iff.mpr
            intro z
            unfold qZ qF qT qP qV qK at z
            simp only [Bool.or_eq_true, Bool.and_eq_true, beq_iff_eq, Nat.ble_eq, rk] at z
            omega
          exact kq_wI (qc 1 (by omega)) (kq_wL qn (kq_wI (qc _ (by omega)) (kq_wI (qc _ (by omega)) (kq_wI (qc _ (by omega)) (kq_wI rfl (kq_wI rfl kq_r))))))
        · rw [rI_s, rI_k (by decide), rI_wL, rI_k (by decide), rI_k (by decide), rI_k (by decide), rI_s]
        · rw [b0, ec]
          obtain ⟨⟨c0, c1', c2', c3', c4, c5, c6, c7, c8, c9⟩, hw, hr, hml, hd⟩ := hR
          refine ⟨⟨?_, ?_, ?_, ?_, ?_, ?_, ?_, ?_, ?_, ?_⟩, fun j hj => ?_, fun j hj => ?_, fun j hj => ?_, fun j hj => ?_⟩
          · rw [un 0 (by omega) (by omega) (by omega) (by omega)]; exact c0
          · rw [u_1, rI_k (by decide), rI_s]
          · rw [un 2 (by omega) (by omega) (by omega) (by omega)]; exact c2'
          · rw [un 3 (by omega) (by omega) (by omega) (by omega)]; exact c3'
          · rw [un 4 (by omega) (by omega) (by omega) (by omega)]; exact c4
          · rw [un 5 (by omega) (by omega) (by omega) (by omega)]; exact c5
          · rw [un 6 (by omega) (by omega) (by omega) (by omega)]; exact c6
          · rw [un 7 (by omega) (by omega) (by omega) (by omega)]; exact c7
          · rw [un 8 (by omega) (by omega) (by omega) (by omega)]; exact c8
          · rw [un 9 (by omega) (by omega) (by omega) (by omega)]; exact c9
          · rw [un _ (by omega) (by omega) (by omega) (by omega)]; exact hw j hj
          · rw [un 0 (by omega) (by omega) (by omega) (by omega)] at hj
            rw [un _ (by omega) (by omega) (by omega) (by omega), un _ (by omega) (by omega) (by omega) (by omega), un _ (by omega) (by omega) (by omega) (by omega)]; exact hr j hj
          · rw [u_1, tm1] at hj
            by_cases e : j = m
            · subst e
              rw [u_34, u_40, u_46]
              refine ⟨?_, ?_, ?_⟩
              · rw [rI_k (by decide), rI_k (by decide), rI_k (by decide), rI_k (by decide), rI_s]
              · rw [rI_k (by decide), rI_k (by decide), rI_k (by decide), rI_s]
              · rw [rI_k (by decide), rI_k (by decide), rI_s]
            · rw [un (34 + j) (by omega) (by omega) (by omega) (by omega), un (40 + j) (by omega) (by omega) (by omega) (by omega), un (46 + j) (by omega) (by omega) (by omega) (by omega)]
              have q := hml j (by omega)
              refine ⟨?_, ?_, ?_⟩
              · rw [rI_k (by decide), rI_k (by decide), rI_k (by decide), rI_k (by decide), rI_j e]; exact q.1
              · rw [rI_k (by decide), rI_k (by decide), rI_k (by decide), rI_j e, rI_k (by decide)]; exact q.2.1
              · rw [rI_k (by decide), rI_k (by decide), rI_j e, rI_k (by decide), rI_k (by decide)]; exact q.2.2
          · rw [un 2 (by omega) (by omega) (by omega) (by omega)] at hj
            rw [un (52 + j) (by omega) (by omega) (by omega) (by omega), un (58 + j) (by omega) (by omega) (by omega) (by omega), un (64 + j) (by omega) (by omega) (by omega) (by omega), un (70 + j) (by omega) (by omega) (by omega) (by omega)]; exact hd j hj
        · rw [b0, ec]
          obtain ⟨⟨a0, a1, a2⟩, hs, hw, hr, hml, hwd⟩ := OkR_mono ok (show B ≤ B + 2000 by omega)
          refine ⟨⟨?_, ?_, ?_⟩, ?_, fun j hj => ?_, fun j hj => ?_, fun j hj => ?_, fun j hj => ?_⟩
          · rw [un 0 (by omega) (by omega) (by omega) (by omega)]; exact a0
          · rw [u_1]; unfold rg; omega
          · rw [un 2 (by omega) (by omega) (by omega) (by omega)]; exact a2
          · rw [un 3 (by omega) (by omega) (by omega) (by omega), un 4 (by omega) (by omega) (by omega) (by omega), un 5 (by omega) (by omega) (by omega) (by omega), un 6 (by omega) (by omega) (by omega) (by omega), un 7 (by omega) (by omega) (by omega) (by omega), un 8 (by omega) (by omega) (by omega) (by omega), un 9 (by omega) (by omega) (by omega) (by omega)]
            exact hs
          · rw [un (10 + j) (by omega) (by omega) (by omega) (by omega), un 6 (by omega) (by omega) (by omega) (by omega)]; exact hw j hj
          · rw [un 0 (by omega) (by omega) (by omega) (by omega)] at hj
            rw [un (16 + j) (by omega) (by omega) (by omega) (by omega), un (22 + j) (by omega) (by omega) (by omega) (by omega), un (28 + j) (by omega) (by omega) (by omega) (by omega)]; exact hr j hj
          · rw [u_1, tm1] at hj
            rw [un 0 (by omega) (by omega) (by omega) (by omega), un 6 (by omega) (by omega) (by omega) (by omega)]
            by_cases e : j = m
            · subst e
              rw [u_34, u_40, u_46]
              refine ⟨c1.1, c1.2, c2, ?_, ?_⟩
              · rw [t0]; omega
              · rw [t0]; omega
            · rw [un (34 + j) (by omega) (by omega) (by omega) (by omega), un (40 + j) (by omega) (by omega) (by omega) (by omega), un (46 + j) (by omega) (by omega) (by omega) (by omega)]
              exact hml j (by omega)
          · rw [un 2 (by omega) (by omega) (by omega) (by omega)] at hj
            rw [un (52 + j) (by omega) (by omega) (by omega) (by omega), un (58 + j) (by omega) (by omega) (by omega) (by omega)]; exact hwd j hj
        · obtain ⟨n1, n2, n3⟩ := hx.2.2.2.1
          unfold RelN
          have ej : ∀ j, rI (wI (wL (wI (wI (wI (m0 ν) 61 0 (34 + m) a) 61 0 (40 + m) c) 61 0 (46 + m) 0) 64 0 (6 + m) 0) 61 0 1 (nI (m + 1))) 61 0 j = _ := fun j => congrFun ec j
          refine ⟨fun j hj => ?_, fun j hj => ?_, fun j hj => ?_⟩
          · rw [ej, un _ (by omega) (by omega) (by omega) (by omega)] at hj
            have hj' : (j : Int) < (rI ν 61 0 0).toInt := hj
            show nmR (rL (wL μ 24 0 m 0) 28 0 j) (rL (wL ν 64 0 (6 + m) 0) 64 0 (18 * 0 + j))
            rw [rL_k (by decide), rL_j (by omega)]
            exact n1 j hj
          · rw [ej, show 348 * 0 + 1 = 1 from rfl, u_1, tm1] at hj
            show nmR (rL (wL μ 24 0 m 0) 24 0 j) (rL (wL ν 64 0 (6 + m) 0) 64 0 (18 * 0 + 6 + j))
            by_cases e : j = m
            · subst e
              rw [show 18 * 0 + 6 + j = 6 + j by omega, rL_s, rL_s]
              exact nm0
            · rw [rL_j e, rL_j (by omega)]
              exact n2 j (by show (j : Int) < (rI ν 61 0 1).toInt; omega)
          · rw [ej, un _ (by omega) (by omega) (by omega) (by omega)] at hj
            have hj' : (j : Int) < (rI ν 61 0 2).toInt := hj
            show nmR (rL (wL μ 24 0 m 0) 50 0 j) (rL (wL ν 64 0 (6 + m) 0) 64 0 (18 * 0 + 12 + j))
            rw [rL_k (by decide), rL_j (by omega)]
            exact n3 j hj
        · have z := congrFun ec (348 * 0 + 6)
          rw [z, un _ (by omega) (by omega) (by omega) (by omega)]
          exact h9
        · exact kq_wI rfl (kq_wI rfl (kq_wI rfl (kq_wI rfl (kq_wI rfl (kq_wL rfl kq_r)))))
        · have qc : ∀ j, j < 76 → qW' 0 0 61 0 j = false := by
            intro j hj
            apply Bool.eq_false_iff.mpr
            intro z
            unfold qW' at z
            simp only [Bool.or_eq_true, Bool.and_eq_true, beq_iff_eq, Nat.ble_eq] at z
            omega
          exact kq_wI (qc 1 (by omega)) (kq_wL rfl (kq_wI (qc _ (by omega)) (kq_wI (qc _ (by omega)) (kq_wI (qc _ (by omega)) (kq_wI rfl (kq_wI rfl kq_r))))))
        · have z := congrFun ec (348 * 0)
          rw [z, un _ (by omega) (by omega) (by omega) (by omega)]
          exact Int.le_refl _
        · have z := congrFun ec (348 * 0 + 1)
          rw [z, show 348 * 0 + 1 = 1 from rfl, u_1, tm1]
          omega
        · have z := congrFun ec (348 * 0 + 2)
          rw [z, un _ (by omega) (by omega) (by omega) (by omega)]
          exact Int.le_refl _
      · have cn : rI ν 61 0 1 = 6 := Int32.toInt_inj.mp (show (rI ν 61 0 1).toInt = 6 by omega)
        refine ⟨-1, _, _, ?_, ?_, re_b h 7⟩
        · rw [if_neg c3]; rfl
        · rw [if_pos cn]; rfl
    · refine ⟨-1, _, _, ?_, ?_, re_b h 5⟩
      · by_cases d : c.toInt < 1
        · rw [if_pos d]; rfl
        · rw [if_neg d, if_neg (by omega)]; rfl
      · rw [if_neg c2]; rfl
  · refine ⟨-1, _, _, ?_, ?_, re_b h 2⟩
    · rw [if_neg c1]; rfl
    · rw [if_neg c1]; rfl
end C92
