/-! 98y: the law, call after call -/
section C98y
variable {B : Int} {μ ν : sM}
/-- the cells of P as in a, all others as in b -/
def mix (P : Nat → Nat → Bool) (a b : sM) : sM := ⟨fun k i j => bif P k i then rI a k i j else rI b k i j, fun k i j => bif P k i then rL a k i j else rL b k i j, fun k i j => bif P k i then rR a k i j else rR b k i j⟩
theorem mixE {P : Nat → Nat → Bool} {a b : sM} (h : keep P a b) : mix P a b = b := by
  refine sM_ext (fun k i j => ?_) (fun k i j => ?_) (fun k i j => ?_)
  · show (bif P k i then rI a k i j else rI b k i j) = _
    cases e : P k i
    · rfl
    · exact ((h k i e j).1).symm
  · show (bif P k i then rL a k i j else rL b k i j) = _
    cases e : P k i
    · rfl
    · exact ((h k i e j).2.1).symm
  · show (bif P k i then rR a k i j else rR b k i j) = _
    cases e : P k i
    · rfl
    · exact ((h k i e j).2.2).symm
theorem mixI {P : Nat → Nat → Bool} {a b : sM} {k i j : Nat} (h : P k i = true) : rI (mix P a b) k i j = rI a k i j := by
  show (bif P k i then rI a k i j else rI b k i j) = _
  rw [h]
  rfl
theorem mixL {P : Nat → Nat → Bool} {a b : sM} {k i j : Nat} (h : P k i = true) : rL (mix P a b) k i j = rL a k i j := by
  show (bif P k i then rL a k i j else rL b k i j) = _
  rw [h]
  rfl
theorem pX_k {k i : Nat} (h : 43 ≤ k ∧ k ≤ 48) : pX k i = true := by
  unfold pX
  rw [Nat.ble_eq_true_of_le (show 20 ≤ k by omega), Nat.ble_eq_true_of_le (show k ≤ 56 by omega)]
  simp
theorem RelW_m {ν' : sM} {w b : Nat} (h : RelW μ w ν b) : RelW μ w (mix pM ν ν') b := by
  obtain ⟨h1, h2, h3, h4⟩ := h
  refine ⟨h1, h2, ?_, h4⟩
  rcases h3 with h3 | ⟨h3, S, p, g1, g2, g3, g4, g5⟩
  · exact Or.inl h3
  · exact Or.inr ⟨h3, S, p, g1, g2, g3, g4, Seg_v (μ := μ) (ν := ν) (μ' := μ) (ν' := mix pM ν ν') (w := w) (w' := w) (bb := b) (bb' := b) (R := p) (E := S) (fun _ _ _ _ _ => rfl) (fun _ _ _ _ => rfl) (fun _ _ => rfl) 30 3 0 S 0 p (Nat.le_refl S) (Nat.le_refl p) g5⟩
theorem RelW_x {μ' : sM} {w b : Nat} (h : RelW μ w ν b) : RelW (mix pX μ μ') w ν b := by
  obtain ⟨h1, h2, h3, h4⟩ := h
  refine ⟨h1, h2, ?_, h4⟩
  rcases h3 with h3 | ⟨h3, S, p, g1, g2, g3, g4, g5⟩
  · exact Or.inl h3
  · exact Or.inr ⟨h3, S, p, g1, g2, g3, g4, Seg_v (μ := μ) (ν := ν) (μ' := mix pX μ μ') (ν' := ν) (w := w) (w' := w) (bb := b) (bb' := b) (R := p) (E := S) (fun _ _ x y _ => mixI (pX_k ⟨x, y⟩)) (fun _ _ _ _ => rfl) (fun _ _ => rfl) 30 3 0 S 0 p (Nat.le_refl S) (Nat.le_refl p) g5⟩
theorem Rel_nm {ν' : sM} (h : Rel B μ ν) (k : keep pM ν ν') : Rel B μ ν' := by
  rw [← mixE k]
  obtain ⟨h0, h1, h2, h3, h4, h5, ⟨h6, kk, g1, g2, g3⟩, h7⟩ := h
  have r : ∀ {r b : Nat}, RelR B μ r ν b → RelR B μ r (mix pM ν ν') b := fun h => h
  exact ⟨h0, h1, h2, h3, r h4, RelW_m h5, ⟨h6, kk, g1, g2, fun i hi => ⟨r (g3 i hi).1, RelW_m (g3 i hi).2⟩⟩, h7⟩
theorem Rel_x {μ' : sM} (h : Rel B μ ν) (k : keep pX μ μ') : Rel B μ' ν := by
  rw [← mixE k]
  obtain ⟨h0, h1, h2, h3, h4, h5, ⟨h6, kk, g1, g2, g3⟩, h7⟩ := h
  have r : ∀ {r b : Nat}, RelR B μ r ν b → RelR B (mix pX μ μ') r ν b := fun h => h
  exact ⟨h0, h1, h2, h3, r h4, RelW_x h5, ⟨h6, kk, g1, g2, fun i hi => ⟨r (g3 i hi).1, RelW_x (g3 i hi).2⟩⟩, h7⟩
/-! one call on both sides -/
theorem stI {X M : sM → Option (Int32 × sM)} (h : Rel B μ μ) (bo : BoI B X M) (kx : ∀ μ, kI pM μ (X μ)) (km : ∀ μ, kI pX μ (M μ)) : ∃ a μ1 ν1, X μ = some (a, μ1) ∧ M μ1 = some (a, ν1) ∧ (∀ i j, rI μ1 0 i j = rI μ 0 i j) ∧ Rel (B + 2000) ν1 ν1 ∧ (∀ i j, rI ν1 0 i j = rI μ 0 i j) := by
  obtain ⟨a, μ1, -, e1, -, -⟩ := bo μ μ h
  have k1 := kx μ a μ1 e1
  obtain ⟨a', μ2, ν1, e1', e2, r⟩ := bo μ μ1 (Rel_nm h k1)
  rw [e1] at e1'
  cases e1'
  have k2 := km μ1 a ν1 e2
  have s1 : ∀ i j, rI μ1 0 i j = rI μ 0 i j := fun i j => (k1 0 i rfl j).1
  exact ⟨a, μ1, ν1, e1, e2, s1, Rel_x r k2, fun i j => ((k2 0 i rfl j).1).trans (s1 i j)⟩
theorem stL {X M : sM → Option (Int64 × sM)} (h : Rel B μ μ) (bo : BoL B X M) (kx : ∀ μ, kL pM μ (X μ)) (km : ∀ μ, kL pX μ (M μ)) : ∃ a μ1 ν1, X μ = some (a, μ1) ∧ M μ1 = some (a, ν1) ∧ (∀ i j, rI μ1 0 i j = rI μ 0 i j) ∧ Rel (B + 2000) ν1 ν1 ∧ (∀ i j, rI ν1 0 i j = rI μ 0 i j) := by
  obtain ⟨a, μ1, -, e1, -, -⟩ := bo μ μ h
  have k1 := kx μ a μ1 e1
  obtain ⟨a', μ2, ν1, e1', e2, r⟩ := bo μ μ1 (Rel_nm h k1)
  rw [e1] at e1'
  cases e1'
  have k2 := km μ1 a ν1 e2
  have s1 : ∀ i j, rI μ1 0 i j = rI μ 0 i j := fun i j => (k1 0 i rfl j).1
  exact ⟨a, μ1, ν1, e1, e2, s1, Rel_x r k2, fun i j => ((k2 0 i rfl j).1).trans (s1 i j)⟩
def Qo (o : Option (Int32 × sM)) : Prop := ∃ ρ, o = some (1, ρ)
theorem q_t {p : Prop} [Decidable p] {a b : Option (Int32 × sM)} (h : p) (q : Qo a) : Qo (if p then a else b) := by
  rw [if_pos h]
  exact q
theorem q_f {p : Prop} [Decidable p] {a b : Option (Int32 × sM)} (h : ¬ p) (q : Qo b) : Qo (if p then a else b) := by
  rw [if_neg h]
  exact q
theorem q_i {p : Prop} [Decidable p] {a b : Option (Int32 × sM)} (h : p → Qo a) (h' : ¬ p → Qo b) : Qo (if p then a else b) := by
  by_cases c : p
  · exact q_t c (h c)
  · exact q_f c (h' c)
theorem q_I {x : Option (Int32 × sM)} {f : Int32 → sM → Option (Int32 × sM)} {a : Int32} {ρ : sM} (h : x = some (a, ρ)) (q : Qo (f a ρ)) : Qo (bI x f) := by
  rw [h]
  exact q
theorem q_L {x : Option (Int64 × sM)} {f : Int64 → sM → Option (Int32 × sM)} {a : Int64} {ρ : sM} (h : x = some (a, ρ)) (q : Qo (f a ρ)) : Qo (bL x f) := by
  rw [h]
  exact q
set_option maxHeartbeats 4000000 in
theorem law1 {fu : Nat} {v3 : Int32} (hB : 0 ≤ B ∧ B ≤ 900000000) (hR : Rel B μ μ) (H : ¬ (rI μ 0 1 0) - 6 < v3) (H0 : inb v3 (ix (rI μ 0 1 0)) = true) (H1 : inb (v3 + 1) (ix (rI μ 0 1 0)) = true) (H2 : inb (v3 + 2) (ix (rI μ 0 1 0)) = true) (H3 : inb (v3 + 3) (ix (rI μ 0 1 0)) = true) (H4 : inb (v3 + 4) (ix (rI μ 0 1 0)) = true) (H5 : inb (v3 + 5) (ix (rI μ 0 1 0)) = true)
    (go : ∀ ν, Rel (B + 2000) ν ν → (∀ i j, rI ν 0 i j = rI μ 0 i j) → Qo (L_law_J1856 (L_law_L18 fu) v3 ν)) (go0 : Qo (L_law_J1856 (L_law_L18 fu) v3 μ)) : Qo (L_law_L18 (fu + 1) v3 μ) := by
  rw [L_law_L18]
  refine q_f H (q_t H0 ?_)
  refine q_i (fun _ => ?_) (fun _ => ?_)
  · obtain ⟨a, μ1, ν1, e1, e2, k1, r, k2⟩ := stI hR (m_status ) (X11_status_kp) (X12_status_kp)
    refine q_I e1 ?_
    exact q_I e2 (q_t rfl (go ν1 r k2))
  refine q_i (fun _ => ?_) (fun _ => ?_)
  · obtain ⟨a, μ1, ν1, e1, e2, k1, r, k2⟩ := stL hR (m_top ) (X11_top_kp) (X12_top_kp)
    refine q_L e1 ?_
    exact q_L e2 (q_t ((lgE _ _).mpr rfl) (go ν1 r k2))
  refine q_i (fun _ => ?_) (fun _ => ?_)
  · obtain ⟨a, μ1, ν1, e1, e2, k1, r, k2⟩ := stL hR (m_bottom ) (X11_bottom_kp) (X12_bottom_kp)
    refine q_L e1 ?_
    exact q_L e2 (q_t ((lgE _ _).mpr rfl) (go ν1 r k2))
  refine q_i (fun _ => ?_) (fun _ => ?_)
  · obtain ⟨a, μ1, ν1, e1, e2, k1, r, k2⟩ := stI hR (m_tray  (rI μ 0 0 (ix (v3 + 1))) (rI μ 0 0 (ix (v3 + 2))) (rI μ 0 0 (ix (v3 + 3)))) (X11_tray_kp (rI μ 0 0 (ix (v3 + 1))) (rI μ 0 0 (ix (v3 + 2))) (rI μ 0 0 (ix (v3 + 3)))) (X12_tray_kp (rI μ 0 0 (ix (v3 + 1))) (rI μ 0 0 (ix (v3 + 2))) (rI μ 0 0 (ix (v3 + 3))))
    refine q_t H1 ( q_t H2 ( q_t H3 (q_I e1 ?_)))
    simp only [k1]
    exact q_t H1 ( q_t H2 ( q_t H3 (q_I e2 (q_t rfl (go ν1 r k2)))))
  refine q_i (fun _ => ?_) (fun _ => ?_)
  · obtain ⟨a, μ1, ν1, e1, e2, k1, r, k2⟩ := stI hR (m_write  (rI μ 0 0 (ix (v3 + 1))) (rI μ 0 0 (ix (v3 + 2))) ((lsl (Int32.toInt64 (rI μ 0 0 (ix (v3 + 3)))) 32) ||| ((Int32.toInt64 (rI μ 0 0 (ix (v3 + 4)))) &&& 4294967295))) (X11_write_kp (rI μ 0 0 (ix (v3 + 1))) (rI μ 0 0 (ix (v3 + 2))) ((lsl (Int32.toInt64 (rI μ 0 0 (ix (v3 + 3)))) 32) ||| ((Int32.toInt64 (rI μ 0 0 (ix (v3 + 4)))) &&& 4294967295))) (X12_write_kp (rI μ 0 0 (ix (v3 + 1))) (rI μ 0 0 (ix (v3 + 2))) ((lsl (Int32.toInt64 (rI μ 0 0 (ix (v3 + 3)))) 32) ||| ((Int32.toInt64 (rI μ 0 0 (ix (v3 + 4)))) &&& 4294967295)))
    refine q_t H1 ( q_t H2 ( q_t H3 ( q_t H4 (q_I e1 ?_))))
    simp only [k1]
    exact q_t H1 ( q_t H2 ( q_t H3 ( q_t H4 (q_I e2 (q_t rfl (go ν1 r k2))))))
  refine q_i (fun _ => ?_) (fun _ => ?_)
  · obtain ⟨a, μ1, ν1, e1, e2, k1, r, k2⟩ := stL hR (m_read  (rI μ 0 0 (ix (v3 + 1))) (rI μ 0 0 (ix (v3 + 2)))) (X11_read_kp (rI μ 0 0 (ix (v3 + 1))) (rI μ 0 0 (ix (v3 + 2)))) (X12_read_kp (rI μ 0 0 (ix (v3 + 1))) (rI μ 0 0 (ix (v3 + 2))))
    refine q_t H1 ( q_t H2 (q_L e1 ?_))
    simp only [k1]
    exact q_t H1 ( q_t H2 (q_L e2 (q_t ((lgE _ _).mpr rfl) (go ν1 r k2))))
  refine q_i (fun _ => ?_) (fun _ => ?_)
  · obtain ⟨a, μ1, ν1, e1, e2, k1, r, k2⟩ := stI hR (m_pour  (rI μ 0 0 (ix (v3 + 1))) (rI μ 0 0 (ix (v3 + 2))) (rI μ 0 0 (ix (v3 + 3))) (rI μ 0 0 (ix (v3 + 4))) (rI μ 0 0 (ix (v3 + 5)))) (X11_pour_kp (rI μ 0 0 (ix (v3 + 1))) (rI μ 0 0 (ix (v3 + 2))) (rI μ 0 0 (ix (v3 + 3))) (rI μ 0 0 (ix (v3 + 4))) (rI μ 0 0 (ix (v3 + 5)))) (X12_pour_kp (rI μ 0 0 (ix (v3 + 1))) (rI μ 0 0 (ix (v3 + 2))) (rI μ 0 0 (ix (v3 + 3))) (rI μ 0 0 (ix (v3 + 4))) (rI μ 0 0 (ix (v3 + 5))))
    refine q_t H1 ( q_t H2 ( q_t H3 ( q_t H4 ( q_t H5 (q_I e1 ?_)))))
    simp only [k1]
    exact q_t H1 ( q_t H2 ( q_t H3 ( q_t H4 ( q_t H5 (q_I e2 (q_t rfl (go ν1 r k2)))))))
  refine q_i (fun _ => ?_) (fun _ => ?_)
  · obtain ⟨a, μ1, ν1, e1, e2, k1, r, k2⟩ := stI hR (m_feed  (rI μ 0 0 (ix (v3 + 1))) (rI μ 0 0 (ix (v3 + 2))) (rI μ 0 0 (ix (v3 + 3))) (rI μ 0 0 (ix (v3 + 4))) (rI μ 0 0 (ix (v3 + 5)))) (X11_feed_kp (rI μ 0 0 (ix (v3 + 1))) (rI μ 0 0 (ix (v3 + 2))) (rI μ 0 0 (ix (v3 + 3))) (rI μ 0 0 (ix (v3 + 4))) (rI μ 0 0 (ix (v3 + 5)))) (X12_feed_kp (rI μ 0 0 (ix (v3 + 1))) (rI μ 0 0 (ix (v3 + 2))) (rI μ 0 0 (ix (v3 + 3))) (rI μ 0 0 (ix (v3 + 4))) (rI μ 0 0 (ix (v3 + 5))))
    refine q_t H1 ( q_t H2 ( q_t H3 ( q_t H4 ( q_t H5 (q_I e1 ?_)))))
    simp only [k1]
    exact q_t H1 ( q_t H2 ( q_t H3 ( q_t H4 ( q_t H5 (q_I e2 (q_t rfl (go ν1 r k2)))))))
  refine q_i (fun _ => ?_) (fun _ => ?_)
  · obtain ⟨a, μ1, ν1, e1, e2, k1, r, k2⟩ := stI hR (m_river hB  (rI μ 0 0 (ix (v3 + 1)))) (X11_river_kp (rI μ 0 0 (ix (v3 + 1)))) (X12_river_kp (rI μ 0 0 (ix (v3 + 1))))
    refine q_t H1 (q_I e1 ?_)
    simp only [k1]
    exact q_t H1 (q_I e2 (q_t rfl (go ν1 r k2)))
  refine q_i (fun _ => ?_) (fun _ => ?_)
  · obtain ⟨a, μ1, ν1, e1, e2, k1, r, k2⟩ := stI hR (m_weeks hB  (rI μ 0 0 (ix (v3 + 1)))) (X11_weeks_kp (rI μ 0 0 (ix (v3 + 1)))) (X12_weeks_kp (rI μ 0 0 (ix (v3 + 1))))
    refine q_t H1 (q_I e1 ?_)
    simp only [k1]
    exact q_t H1 (q_I e2 (q_t rfl (go ν1 r k2)))
  refine q_i (fun _ => ?_) (fun _ => ?_)
  · obtain ⟨a, μ1, ν1, e1, e2, k1, r, k2⟩ := stI hR (m_fault  (rI μ 0 0 (ix (v3 + 1)))) (X11_fault_kp (rI μ 0 0 (ix (v3 + 1)))) (X12_fault_kp (rI μ 0 0 (ix (v3 + 1))))
    refine q_t H1 (q_I e1 ?_)
    simp only [k1]
    exact q_t H1 (q_I e2 (q_t rfl (go ν1 r k2)))
  refine q_i (fun _ => ?_) (fun _ => ?_)
  · obtain ⟨a, μ1, ν1, e1, e2, k1, r, k2⟩ := stI hR (m_many  (rI μ 0 0 (ix (v3 + 1)))) (X11_many_kp (rI μ 0 0 (ix (v3 + 1)))) (X12_many_kp (rI μ 0 0 (ix (v3 + 1))))
    refine q_t H1 (q_I e1 ?_)
    simp only [k1]
    exact q_t H1 (q_I e2 (q_t rfl (go ν1 r k2)))
  refine q_i (fun _ => ?_) (fun _ => ?_)
  · obtain ⟨a, μ1, ν1, e1, e2, k1, r, k2⟩ := stI hR (m_turnsLeft ) (X11_turnsLeft_kp) (X12_turnsLeft_kp)
    refine q_I e1 ?_
    exact q_I e2 (q_t rfl (go ν1 r k2))
  refine q_i (fun _ => ?_) (fun _ => ?_)
  · obtain ⟨a, μ1, ν1, e1, e2, k1, r, k2⟩ := stL hR (m_water  (rI μ 0 0 (ix (v3 + 1)))) (X11_water_kp (rI μ 0 0 (ix (v3 + 1)))) (X12_water_kp (rI μ 0 0 (ix (v3 + 1))))
    refine q_t H1 (q_L e1 ?_)
    simp only [k1]
    exact q_t H1 (q_L e2 (q_t ((lgE _ _).mpr rfl) (go ν1 r k2)))
  refine q_i (fun _ => ?_) (fun _ => ?_)
  · obtain ⟨a, μ1, ν1, e1, e2, k1, r, k2⟩ := stI hR (m_reach  (rI μ 0 0 (ix (v3 + 1))) (rI μ 0 0 (ix (v3 + 2)))) (X11_reach_kp (rI μ 0 0 (ix (v3 + 1))) (rI μ 0 0 (ix (v3 + 2)))) (X12_reach_kp (rI μ 0 0 (ix (v3 + 1))) (rI μ 0 0 (ix (v3 + 2))))
    refine q_t H1 ( q_t H2 (q_I e1 ?_))
    simp only [k1]
    exact q_t H1 ( q_t H2 (q_I e2 (q_t rfl (go ν1 r k2))))
  refine q_i (fun _ => ?_) (fun _ => ?_)
  · obtain ⟨a, μ1, ν1, e1, e2, k1, r, k2⟩ := stI hR (m_mill  (rI μ 0 0 (ix (v3 + 1))) (rI μ 0 0 (ix (v3 + 2)))) (X11_mill_kp (rI μ 0 0 (ix (v3 + 1))) (rI μ 0 0 (ix (v3 + 2)))) (X12_mill_kp (rI μ 0 0 (ix (v3 + 1))) (rI μ 0 0 (ix (v3 + 2))))
    refine q_t H1 ( q_t H2 (q_I e1 ?_))
    simp only [k1]
    exact q_t H1 ( q_t H2 (q_I e2 (q_t rfl (go ν1 r k2))))
  refine q_i (fun _ => ?_) (fun _ => ?_)
  · obtain ⟨a, μ1, ν1, e1, e2, k1, r, k2⟩ := stI hR (m_winder  (rI μ 0 0 (ix (v3 + 1))) (rI μ 0 0 (ix (v3 + 2)))) (X11_winder_kp (rI μ 0 0 (ix (v3 + 1))) (rI μ 0 0 (ix (v3 + 2)))) (X12_winder_kp (rI μ 0 0 (ix (v3 + 1))) (rI μ 0 0 (ix (v3 + 2))))
    refine q_t H1 ( q_t H2 (q_I e1 ?_))
    simp only [k1]
    exact q_t H1 ( q_t H2 (q_I e2 (q_t rfl (go ν1 r k2))))
  refine q_i (fun _ => ?_) (fun _ => ?_)
  · obtain ⟨a, μ1, ν1, e1, e2, k1, r, k2⟩ := stI hR (m_copyStored  (rI μ 0 0 (ix (v3 + 1)))) (X11_copyStored_kp (rI μ 0 0 (ix (v3 + 1)))) (X12_copyStored_kp (rI μ 0 0 (ix (v3 + 1))))
    refine q_t H1 (q_I e1 ?_)
    simp only [k1]
    exact q_t H1 (q_I e2 (q_t rfl (go ν1 r k2)))
  refine q_i (fun _ => ?_) (fun _ => ?_)
  · obtain ⟨a, μ1, ν1, e1, e2, k1, r, k2⟩ := stI hR (m_hour hB  (rI μ 0 0 (ix (v3 + 1)))) (X11_hour_kp (rI μ 0 0 (ix (v3 + 1)))) (X12_hour_kp (rI μ 0 0 (ix (v3 + 1))))
    refine q_t H1 (q_I e1 ?_)
    simp only [k1]
    exact q_t H1 (q_I e2 (q_t rfl (go ν1 r k2)))
  refine q_i (fun _ => ?_) (fun _ => ?_)
  · refine q_t H1 (q_t H2 (q_i (fun z => ?_) (fun z => ?_)))
    · obtain ⟨a, μ1, ν1, e1, e2, k1, r, k2⟩ := stI hR (m_wind (rI μ 0 0 (ix (v3 + 1))) 0) (X11_wind_kp (rI μ 0 0 (ix (v3 + 1))) 0) (X12_wind_kp (rI μ 0 0 (ix (v3 + 1))) 0)
      unfold L_law_J870
      refine q_I e1 ?_
      simp only [k1]
      refine q_t H1 (q_t H2 (q_t z ?_))
      unfold L_law_J892
      exact q_I e2 (q_t rfl (go ν1 r k2))
    · obtain ⟨a, μ1, ν1, e1, e2, k1, r, k2⟩ := stI hR (m_wind (rI μ 0 0 (ix (v3 + 1))) 1) (X11_wind_kp (rI μ 0 0 (ix (v3 + 1))) 1) (X12_wind_kp (rI μ 0 0 (ix (v3 + 1))) 1)
      unfold L_law_J870
      refine q_I e1 ?_
      simp only [k1]
      refine q_t H1 (q_t H2 (q_f z ?_))
      unfold L_law_J892
      exact q_I e2 (q_t rfl (go ν1 r k2))
  refine q_i (fun _ => ?_) (fun _ => ?_)
  · obtain ⟨a, μ1, ν1, e1, e2, k1, r, k2⟩ := stI hR (m_oil ) (X11_oil_kp) (X12_oil_kp)
    refine q_I e1 ?_
    exact q_I e2 (q_t rfl (go ν1 r k2))
  refine q_i (fun _ => ?_) (fun _ => ?_)
  · obtain ⟨a, μ1, ν1, e1, e2, k1, r, k2⟩ := stI hR (m_gate  (rI μ 0 0 (ix (v3 + 1))) (rI μ 0 0 (ix (v3 + 2)))) (X11_gate_kp (rI μ 0 0 (ix (v3 + 1))) (rI μ 0 0 (ix (v3 + 2)))) (X12_gate_kp (rI μ 0 0 (ix (v3 + 1))) (rI μ 0 0 (ix (v3 + 2))))
    refine q_t H1 ( q_t H2 (q_I e1 ?_))
    simp only [k1]
    exact q_t H1 ( q_t H2 (q_I e2 (q_t rfl (go ν1 r k2))))
  refine q_i (fun _ => ?_) (fun _ => ?_)
  · refine q_t H1 (q_i (fun z => ?_) (fun z => ?_))
    · obtain ⟨a, μ1, ν1, e1, e2, k1, r, k2⟩ := stI hR (m_rain (a := 0) (Or.inl rfl)) (X11_rain_kp 0) (X12_rain_kp 0)
      unfold L_law_J960
      refine q_I e1 ?_
      simp only [k1]
      refine q_t H1 (q_t z ?_)
      unfold L_law_J977
      exact q_I e2 (q_t rfl (go ν1 r k2))
    · obtain ⟨a, μ1, ν1, e1, e2, k1, r, k2⟩ := stI hR (m_rain (a := 1) (Or.inr rfl)) (X11_rain_kp 1) (X12_rain_kp 1)
      unfold L_law_J960
      refine q_I e1 ?_
      simp only [k1]
      refine q_t H1 (q_f z ?_)
      unfold L_law_J977
      exact q_I e2 (q_t rfl (go ν1 r k2))
  refine q_i (fun _ => ?_) (fun _ => ?_)
  · obtain ⟨a, μ1, ν1, e1, e2, k1, r, k2⟩ := stI hR (m_bring hB  (rI μ 0 0 (ix (v3 + 1))) (rI μ 0 0 (ix (v3 + 2)))) (X11_bring_kp (rI μ 0 0 (ix (v3 + 1))) (rI μ 0 0 (ix (v3 + 2)))) (X12_bring_kp (rI μ 0 0 (ix (v3 + 1))) (rI μ 0 0 (ix (v3 + 2))))
    refine q_t H1 ( q_t H2 (q_I e1 ?_))
    simp only [k1]
    exact q_t H1 ( q_t H2 (q_I e2 (q_t rfl (go ν1 r k2))))
  refine q_i (fun _ => ?_) (fun _ => ?_)
  · obtain ⟨a, μ1, ν1, e1, e2, k1, r, k2⟩ := stI hR (m_rule  (rI μ 0 0 (ix (v3 + 1))) (rI μ 0 0 (ix (v3 + 2)))) (X11_rule_kp (rI μ 0 0 (ix (v3 + 1))) (rI μ 0 0 (ix (v3 + 2)))) (X12_rule_kp (rI μ 0 0 (ix (v3 + 1))) (rI μ 0 0 (ix (v3 + 2))))
    refine q_t H1 ( q_t H2 (q_I e1 ?_))
    simp only [k1]
    exact q_t H1 ( q_t H2 (q_I e2 (q_t rfl (go ν1 r k2))))
  refine q_i (fun _ => ?_) (fun _ => ?_)
  · obtain ⟨a, μ1, ν1, e1, e2, k1, r, k2⟩ := stI hR (m_build  (rI μ 0 0 (ix (v3 + 1))) (rI μ 0 0 (ix (v3 + 2)))) (X11_build_kp (rI μ 0 0 (ix (v3 + 1))) (rI μ 0 0 (ix (v3 + 2)))) (X12_build_kp (rI μ 0 0 (ix (v3 + 1))) (rI μ 0 0 (ix (v3 + 2))))
    refine q_t H1 ( q_t H2 (q_I e1 ?_))
    simp only [k1]
    exact q_t H1 ( q_t H2 (q_I e2 (q_t rfl (go ν1 r k2))))
  refine q_i (fun _ => ?_) (fun _ => ?_)
  · obtain ⟨a, μ1, ν1, e1, e2, k1, r, k2⟩ := stI hR (m_train  (rI μ 0 0 (ix (v3 + 1))) (rI μ 0 0 (ix (v3 + 2)))) (X11_train_kp (rI μ 0 0 (ix (v3 + 1))) (rI μ 0 0 (ix (v3 + 2)))) (X12_train_kp (rI μ 0 0 (ix (v3 + 1))) (rI μ 0 0 (ix (v3 + 2))))
    refine q_t H1 ( q_t H2 (q_I e1 ?_))
    simp only [k1]
    exact q_t H1 ( q_t H2 (q_I e2 (q_t rfl (go ν1 r k2))))
  refine q_i (fun _ => ?_) (fun _ => ?_)
  · obtain ⟨a, μ1, ν1, e1, e2, k1, r, k2⟩ := stI hR (m_turnsIn hB  (rI μ 0 0 (ix (v3 + 1)))) (X11_turnsIn_kp (rI μ 0 0 (ix (v3 + 1)))) (X12_turnsIn_kp (rI μ 0 0 (ix (v3 + 1))))
    refine q_t H1 (q_I e1 ?_)
    simp only [k1]
    exact q_t H1 (q_I e2 (q_t rfl (go ν1 r k2)))
  refine q_i (fun _ => ?_) (fun _ => ?_)
  · obtain ⟨a, μ1, ν1, e1, e2, k1, r, k2⟩ := stI hR (m_storedIn hB  (rI μ 0 0 (ix (v3 + 1))) (rI μ 0 0 (ix (v3 + 2)))) (X11_storedIn_kp (rI μ 0 0 (ix (v3 + 1))) (rI μ 0 0 (ix (v3 + 2)))) (X12_storedIn_kp (rI μ 0 0 (ix (v3 + 1))) (rI μ 0 0 (ix (v3 + 2))))
    refine q_t H1 ( q_t H2 (q_I e1 ?_))
    simp only [k1]
    exact q_t H1 ( q_t H2 (q_I e2 (q_t rfl (go ν1 r k2))))
  refine q_i (fun _ => ?_) (fun _ => ?_)
  · obtain ⟨a, μ1, ν1, e1, e2, k1, r, k2⟩ := stI hR (m_groundIn hB  (rI μ 0 0 (ix (v3 + 1))) (rI μ 0 0 (ix (v3 + 2)))) (X11_groundIn_kp (rI μ 0 0 (ix (v3 + 1))) (rI μ 0 0 (ix (v3 + 2)))) (X12_groundIn_kp (rI μ 0 0 (ix (v3 + 1))) (rI μ 0 0 (ix (v3 + 2))))
    refine q_t H1 ( q_t H2 (q_I e1 ?_))
    simp only [k1]
    exact q_t H1 ( q_t H2 (q_I e2 (q_t rfl (go ν1 r k2))))
  refine q_i (fun _ => ?_) (fun _ => ?_)
  · obtain ⟨a, μ1, ν1, e1, e2, k1, r, k2⟩ := stL hR (m_seaIn hB  (rI μ 0 0 (ix (v3 + 1)))) (X11_seaIn_kp (rI μ 0 0 (ix (v3 + 1)))) (X12_seaIn_kp (rI μ 0 0 (ix (v3 + 1))))
    refine q_t H1 (q_L e1 ?_)
    simp only [k1]
    exact q_t H1 (q_L e2 (q_t ((lgE _ _).mpr rfl) (go ν1 r k2)))
  refine q_i (fun _ => ?_) (fun _ => ?_)
  · obtain ⟨a, μ1, ν1, e1, e2, k1, r, k2⟩ := stI hR (m_dryIn hB  (rI μ 0 0 (ix (v3 + 1)))) (X11_dryIn_kp (rI μ 0 0 (ix (v3 + 1)))) (X12_dryIn_kp (rI μ 0 0 (ix (v3 + 1))))
    refine q_t H1 (q_I e1 ?_)
    simp only [k1]
    exact q_t H1 (q_I e2 (q_t rfl (go ν1 r k2)))
  refine q_i (fun _ => ?_) (fun _ => ?_)
  · obtain ⟨a, μ1, ν1, e1, e2, k1, r, k2⟩ := stI hR (m_floodIn hB  (rI μ 0 0 (ix (v3 + 1)))) (X11_floodIn_kp (rI μ 0 0 (ix (v3 + 1)))) (X12_floodIn_kp (rI μ 0 0 (ix (v3 + 1))))
    refine q_t H1 (q_I e1 ?_)
    simp only [k1]
    exact q_t H1 (q_I e2 (q_t rfl (go ν1 r k2)))
  refine q_i (fun _ => ?_) (fun _ => ?_)
  · obtain ⟨a, μ1, ν1, e1, e2, k1, r, k2⟩ := stI hR (m_stillIn hB ) (X11_stillIn_kp) (X12_stillIn_kp)
    refine q_I e1 ?_
    exact q_I e2 (q_t rfl (go ν1 r k2))
  refine q_i (fun _ => ?_) (fun _ => ?_)
  · obtain ⟨a, μ1, ν1, e1, e2, k1, r, k2⟩ := stI hR (m_lawIn ) (X11_lawIn_kp) (X12_lawIn_kp)
    refine q_I e1 ?_
    exact q_I e2 (q_t rfl (go ν1 r k2))
  refine q_i (fun _ => ?_) (fun _ => ?_)
  · obtain ⟨a, μ1, ν1, e1, e2, k1, r, k2⟩ := stI hR (m_enough hB  (rI μ 0 0 (ix (v3 + 1))) (rI μ 0 0 (ix (v3 + 2))) (rI μ 0 0 (ix (v3 + 3)))) (X11_enough_kp (rI μ 0 0 (ix (v3 + 1))) (rI μ 0 0 (ix (v3 + 2))) (rI μ 0 0 (ix (v3 + 3)))) (X12_enough_kp (rI μ 0 0 (ix (v3 + 1))) (rI μ 0 0 (ix (v3 + 2))) (rI μ 0 0 (ix (v3 + 3))))
    refine q_t H1 ( q_t H2 ( q_t H3 (q_I e1 ?_)))
    simp only [k1]
    exact q_t H1 ( q_t H2 ( q_t H3 (q_I e2 (q_t rfl (go ν1 r k2)))))
  refine q_i (fun _ => ?_) (fun _ => ?_)
  · obtain ⟨a, μ1, ν1, e1, e2, k1, r, k2⟩ := stI hR (m_bestGate hB  (rI μ 0 0 (ix (v3 + 1))) (rI μ 0 0 (ix (v3 + 2)))) (X11_bestGate_kp (rI μ 0 0 (ix (v3 + 1))) (rI μ 0 0 (ix (v3 + 2)))) (X12_bestGate_kp (rI μ 0 0 (ix (v3 + 1))) (rI μ 0 0 (ix (v3 + 2))))
    refine q_t H1 ( q_t H2 (q_I e1 ?_))
    simp only [k1]
    exact q_t H1 ( q_t H2 (q_I e2 (q_t rfl (go ν1 r k2))))
  refine q_i (fun _ => ?_) (fun _ => ?_)
  · obtain ⟨a, μ1, ν1, e1, e2, k1, r, k2⟩ := stI hR (m_bestGround hB  (rI μ 0 0 (ix (v3 + 1))) (rI μ 0 0 (ix (v3 + 2)))) (X11_bestGround_kp (rI μ 0 0 (ix (v3 + 1))) (rI μ 0 0 (ix (v3 + 2)))) (X12_bestGround_kp (rI μ 0 0 (ix (v3 + 1))) (rI μ 0 0 (ix (v3 + 2))))
    refine q_t H1 ( q_t H2 (q_I e1 ?_))
    simp only [k1]
    exact q_t H1 ( q_t H2 (q_I e2 (q_t rfl (go ν1 r k2))))
  refine q_i (fun _ => ?_) (fun _ => ?_)
  · obtain ⟨a, μ1, ν1, e1, e2, k1, r, k2⟩ := stI hR (m_hire hB  (rI μ 0 0 (ix (v3 + 1))) (rI μ 0 0 (ix (v3 + 2)))) (X11_hire_kp (rI μ 0 0 (ix (v3 + 1))) (rI μ 0 0 (ix (v3 + 2)))) (X12_hire_kp (rI μ 0 0 (ix (v3 + 1))) (rI μ 0 0 (ix (v3 + 2))))
    refine q_t H1 ( q_t H2 (q_I e1 ?_))
    simp only [k1]
    exact q_t H1 ( q_t H2 (q_I e2 (q_t rfl (go ν1 r k2))))
  refine q_i (fun _ => ?_) (fun _ => ?_)
  · obtain ⟨a, μ1, ν1, e1, e2, k1, r, k2⟩ := stI hR (m_hireAt hB  (rI μ 0 0 (ix (v3 + 1))) (rI μ 0 0 (ix (v3 + 2))) (rI μ 0 0 (ix (v3 + 3)))) (X11_hireAt_kp (rI μ 0 0 (ix (v3 + 1))) (rI μ 0 0 (ix (v3 + 2))) (rI μ 0 0 (ix (v3 + 3)))) (X12_hireAt_kp (rI μ 0 0 (ix (v3 + 1))) (rI μ 0 0 (ix (v3 + 2))) (rI μ 0 0 (ix (v3 + 3))))
    refine q_t H1 ( q_t H2 ( q_t H3 (q_I e1 ?_)))
    simp only [k1]
    exact q_t H1 ( q_t H2 ( q_t H3 (q_I e2 (q_t rfl (go ν1 r k2)))))
  refine q_i (fun _ => ?_) (fun _ => ?_)
  · obtain ⟨a, μ1, ν1, e1, e2, k1, r, k2⟩ := stI hR (m_wound  (rI μ 0 0 (ix (v3 + 1))) (rI μ 0 0 (ix (v3 + 2)))) (X11_wound_kp (rI μ 0 0 (ix (v3 + 1))) (rI μ 0 0 (ix (v3 + 2)))) (X12_wound_kp (rI μ 0 0 (ix (v3 + 1))) (rI μ 0 0 (ix (v3 + 2))))
    refine q_t H1 ( q_t H2 (q_I e1 ?_))
    simp only [k1]
    exact q_t H1 ( q_t H2 (q_I e2 (q_t rfl (go ν1 r k2))))
  refine q_i (fun _ => ?_) (fun _ => ?_)
  · obtain ⟨a, μ1, ν1, e1, e2, k1, r, k2⟩ := stI hR (m_sure  (rI μ 0 0 (ix (v3 + 1))) (rI μ 0 0 (ix (v3 + 2)))) (X11_sure_kp (rI μ 0 0 (ix (v3 + 1))) (rI μ 0 0 (ix (v3 + 2)))) (X12_sure_kp (rI μ 0 0 (ix (v3 + 1))) (rI μ 0 0 (ix (v3 + 2))))
    refine q_t H1 ( q_t H2 (q_I e1 ?_))
    simp only [k1]
    exact q_t H1 ( q_t H2 (q_I e2 (q_t rfl (go ν1 r k2))))
  refine q_i (fun _ => ?_) (fun _ => ?_)
  · obtain ⟨a, μ1, ν1, e1, e2, k1, r, k2⟩ := stI hR (m_cheapest  (rI μ 0 0 (ix (v3 + 1))) (rI μ 0 0 (ix (v3 + 2)))) (X11_cheapest_kp (rI μ 0 0 (ix (v3 + 1))) (rI μ 0 0 (ix (v3 + 2)))) (X12_cheapest_kp (rI μ 0 0 (ix (v3 + 1))) (rI μ 0 0 (ix (v3 + 2))))
    refine q_t H1 ( q_t H2 (q_I e1 ?_))
    simp only [k1]
    exact q_t H1 ( q_t H2 (q_I e2 (q_t rfl (go ν1 r k2))))
  refine q_i (fun _ => ?_) (fun _ => ?_)
  · obtain ⟨a, μ1, ν1, e1, e2, k1, r, k2⟩ := stI hR (m_game hB  (rI μ 0 0 (ix (v3 + 1))) (rI μ 0 0 (ix (v3 + 2))) (rI μ 0 0 (ix (v3 + 3)))) (X11_game_kp (rI μ 0 0 (ix (v3 + 1))) (rI μ 0 0 (ix (v3 + 2))) (rI μ 0 0 (ix (v3 + 3)))) (X12_game_kp (rI μ 0 0 (ix (v3 + 1))) (rI μ 0 0 (ix (v3 + 2))) (rI μ 0 0 (ix (v3 + 3))))
    refine q_t H1 ( q_t H2 ( q_t H3 (q_I e1 ?_)))
    simp only [k1]
    exact q_t H1 ( q_t H2 ( q_t H3 (q_I e2 (q_t rfl (go ν1 r k2)))))
  refine q_i (fun _ => ?_) (fun _ => ?_)
  · obtain ⟨a, μ1, ν1, e1, e2, k1, r, k2⟩ := stI hR (m_moveOf hB  (rI μ 0 0 (ix (v3 + 1))) (rI μ 0 0 (ix (v3 + 2))) (rI μ 0 0 (ix (v3 + 3)))) (X11_moveOf_kp (rI μ 0 0 (ix (v3 + 1))) (rI μ 0 0 (ix (v3 + 2))) (rI μ 0 0 (ix (v3 + 3)))) (X12_moveOf_kp (rI μ 0 0 (ix (v3 + 1))) (rI μ 0 0 (ix (v3 + 2))) (rI μ 0 0 (ix (v3 + 3))))
    refine q_t H1 ( q_t H2 ( q_t H3 (q_I e1 ?_)))
    simp only [k1]
    exact q_t H1 ( q_t H2 ( q_t H3 (q_I e2 (q_t rfl (go ν1 r k2)))))
  refine q_i (fun _ => ?_) (fun _ => ?_)
  · obtain ⟨a, μ1, ν1, e1, e2, k1, r, k2⟩ := stI hR (m_share  (rI μ 0 0 (ix (v3 + 1)))) (X11_share_kp (rI μ 0 0 (ix (v3 + 1)))) (X12_share_kp (rI μ 0 0 (ix (v3 + 1))))
    refine q_t H1 (q_I e1 ?_)
    simp only [k1]
    exact q_t H1 (q_I e2 (q_t rfl (go ν1 r k2)))
  refine q_i (fun _ => ?_) (fun _ => ?_)
  · obtain ⟨a, μ1, ν1, e1, e2, k1, r, k2⟩ := stI hR (m_price  (rI μ 0 0 (ix (v3 + 1)))) (X11_price_kp (rI μ 0 0 (ix (v3 + 1)))) (X12_price_kp (rI μ 0 0 (ix (v3 + 1))))
    refine q_t H1 (q_I e1 ?_)
    simp only [k1]
    exact q_t H1 (q_I e2 (q_t rfl (go ν1 r k2)))
  refine q_i (fun _ => ?_) (fun _ => ?_)
  · obtain ⟨a, μ1, ν1, e1, e2, k1, r, k2⟩ := stI hR (m_wet  (rI μ 0 0 (ix (v3 + 1))) (rI μ 0 0 (ix (v3 + 2)))) (X11_wet_kp (rI μ 0 0 (ix (v3 + 1))) (rI μ 0 0 (ix (v3 + 2)))) (X12_wet_kp (rI μ 0 0 (ix (v3 + 1))) (rI μ 0 0 (ix (v3 + 2))))
    refine q_t H1 ( q_t H2 (q_I e1 ?_))
    simp only [k1]
    exact q_t H1 ( q_t H2 (q_I e2 (q_t rfl (go ν1 r k2))))
  refine q_i (fun _ => ?_) (fun _ => ?_)
  · obtain ⟨a, μ1, ν1, e1, e2, k1, r, k2⟩ := stI hR (m_live hB  (rI μ 0 0 (ix (v3 + 1)))) (X11_live_kp (rI μ 0 0 (ix (v3 + 1)))) (X12_live_kp (rI μ 0 0 (ix (v3 + 1))))
    refine q_t H1 (q_I e1 ?_)
    simp only [k1]
    exact q_t H1 (q_I e2 (q_t rfl (go ν1 r k2)))
  refine q_i (fun _ => ?_) (fun _ => ?_)
  · obtain ⟨a, μ1, ν1, e1, e2, k1, r, k2⟩ := stI hR (m_lived  (rI μ 0 0 (ix (v3 + 1)))) (X11_lived_kp (rI μ 0 0 (ix (v3 + 1)))) (X12_lived_kp (rI μ 0 0 (ix (v3 + 1))))
    refine q_t H1 (q_I e1 ?_)
    simp only [k1]
    exact q_t H1 (q_I e2 (q_t rfl (go ν1 r k2)))
  refine q_i (fun _ => ?_) (fun _ => ?_)
  · obtain ⟨a, μ1, ν1, e1, e2, k1, r, k2⟩ := stI hR (m_mean hB  (rI μ 0 0 (ix (v3 + 1))) (rI μ 0 0 (ix (v3 + 2)))) (X11_mean_kp (rI μ 0 0 (ix (v3 + 1))) (rI μ 0 0 (ix (v3 + 2)))) (X12_mean_kp (rI μ 0 0 (ix (v3 + 1))) (rI μ 0 0 (ix (v3 + 2))))
    refine q_t H1 ( q_t H2 (q_I e1 ?_))
    simp only [k1]
    exact q_t H1 ( q_t H2 (q_I e2 (q_t rfl (go ν1 r k2))))
  refine q_i (fun _ => ?_) (fun _ => ?_)
  · obtain ⟨a, μ1, ν1, e1, e2, k1, r, k2⟩ := stI hR (m_mark ) (X11_mark_kp) (X12_mark_kp)
    refine q_I e1 ?_
    exact q_I e2 (q_t rfl (go ν1 r k2))
  refine q_i (fun _ => ?_) (fun _ => ?_)
  · obtain ⟨a, μ1, ν1, e1, e2, k1, r, k2⟩ := stI hR (m_back ) (X11_back_kp) (X12_back_kp)
    refine q_I e1 ?_
    exact q_I e2 (q_t rfl (go ν1 r k2))
  exact go0
theorem sub6 {len : Nat} (h : len < 2147483648) : (nI len - 6).toInt = (len : Int) - 6 := by
  have e : (nI len).toInt = (len : Int) := nI_toInt (by omega)
  have e6 : (6 : Int32).toInt = 6 := rfl
  rw [tS (by omega) (by omega), e, e6]
theorem Rel_up {B' : Int} (h : Rel B μ ν) (hb : B ≤ B') : Rel B' μ ν := Rel_q h kq_r kq_r h.1 hb
/-- the law holds of every script -/
theorem law2 {len : Nat} (hl : len ≤ 600000) : ∀ (k c fu : Nat) (μ : sM), len ≤ 6 * c + 6 * k → 6 * c ≤ len → k < fu → rI μ 0 1 0 = nI len → Rel (2000 * (c : Int)) μ μ → Qo (L_law_L18 fu (nI (6 * c)) μ) := by
  intro k
  induction k with
  | zero =>
    intro c fu μ h1 h2 h3 h4 hR
    obtain ⟨fu, rfl⟩ : ∃ f, fu = f + 1 := ⟨fu - 1, by omega⟩
    rw [L_law_L18]
    refine q_t ?_ ⟨μ, rfl⟩
    rw [h4, lt_i, nI_toInt (by omega), sub6 (by omega)]
    omega
  | succ k ih =>
    intro c fu μ h1 h2 h3 h4 hR
    obtain ⟨fu, rfl⟩ : ∃ f, fu = f + 1 := ⟨fu - 1, by omega⟩
    by_cases e : len < 6 * c + 6
    · rw [L_law_L18]
      refine q_t ?_ ⟨μ, rfl⟩
      rw [h4, lt_i, nI_toInt (by omega), sub6 (by omega)]
      omega
    · have hi : ∀ d : Nat, d ≤ 5 → inb (nI (6 * c + d)) (ix (rI μ 0 1 0)) = true := fun d hd => by
        rw [h4, ix_nI (by omega)]
        exact inb_nI (by omega) (by omega)
      have nx : nI (6 * c) + 6 = nI (6 * (c + 1)) := by
        rw [show (6 : Int32) = nI 6 from rfl, nI_add, show 6 * c + 6 = 6 * (c + 1) by omega]
      have ad : ∀ d : Nat, nI (6 * c) + nI d = nI (6 * c + d) := fun d => nI_add _ d
      refine law1 (B := 2000 * (c : Int)) (by omega) hR ?_ (hi 0 (by omega)) (by rw [show (1 : Int32) = nI 1 from rfl, ad]; exact hi 1 (by omega)) (by rw [show (2 : Int32) = nI 2 from rfl, ad]; exact hi 2 (by omega)) (by rw [show (3 : Int32) = nI 3 from rfl, ad]; exact hi 3 (by omega)) (by rw [show (4 : Int32) = nI 4 from rfl, ad]; exact hi 4 (by omega)) (by rw [show (5 : Int32) = nI 5 from rfl, ad]; exact hi 5 (by omega)) (fun ν r hk => ?_) ?_
      · rw [h4, lt_i, nI_toInt (by omega), sub6 (by omega)]
        omega
      · unfold L_law_J1856
        rw [nx]
        refine ih (c + 1) fu ν (by omega) (by omega) (by omega) ((hk 1 0).trans h4) ?_
        rw [show (2000 * ((c + 1 : Nat) : Int)) = 2000 * (c : Int) + 2000 by omega]
        exact r
      · unfold L_law_J1856
        rw [nx]
        refine ih (c + 1) fu μ (by omega) (by omega) (by omega) h4 ?_
        have : Rel (2000 * ((c + 1 : Nat) : Int)) μ μ := Rel_up hR (by omega)
        exact this
end C98y
