/-! 90: pour, feed -/
section C90
variable {B : Int} {μ ν : sM}
theorem lg_p (a b : Int64) : 0 < lg_cmp a b ↔ b < a := by
  unfold lg_cmp
  by_cases c : a > b
  · rw [if_pos c]
    exact ⟨fun _ => c, fun _ => by decide +kernel⟩
  · rw [if_neg c]
    by_cases e : a = b
    · rw [if_pos e]
      exact ⟨fun z => absurd z (by decide +kernel), fun z => absurd z c⟩
    · rw [if_neg e]
      exact ⟨fun z => absurd z (by decide +kernel), fun z => absurd z c⟩
theorem lg_n (a b : Int64) : lg_cmp a b ≤ 0 ↔ a ≤ b := by
  have z := lg_p a b
  rw [← Int32.not_lt, ← Int64.not_lt]
  exact not_congr z
theorem addL (a b : Int32) : (a.toInt64 + b.toInt64).toInt = a.toInt + b.toInt := by
  have a1 := Int32.toInt_lt a
  have a2 := Int32.le_toInt a
  have b1 := Int32.toInt_lt b
  have b2 := Int32.le_toInt b
  rw [tAL (by rw [tX, tX]; omega) (by rw [tX, tX]; omega), tX, tX]
theorem room_e (h : RelT μ ν) {t : Nat} (ht : t < 4) (a n : Int32) : X7_hasRoom (nI t) a n μ = some (if 0 ≤ a.toInt ∧ a.toInt + n.toInt ≤ (rI ν 58 0 t).toInt then 1 else 0, μ) := by
  unfold X7_hasRoom
  rw [if_pos (inb_nI ht (by omega)), ix_nI (by omega), (h t ht).1]
  simp only [lg_p, Int64.lt_iff_toInt_lt, tX, addL]
  simp only [lt_i, t0]
  by_cases c : a.toInt < 0
  · rw [if_pos c, if_neg (by omega)]
  · rw [if_neg c]
    by_cases d : (rI ν 58 0 t).toInt < a.toInt + n.toInt
    · rw [if_pos d, if_neg (by omega)]
    · rw [if_neg d, if_pos (by omega)]
theorem pourF {t u p q n : Nat} (h : t < 4 ∧ u < 4 ∧ p + n ≤ 60 ∧ q + n ≤ 60) (hs : 60 * u + q ≤ 60 * t + p ∨ 60 * t + p + n ≤ 60 * u + q) (ν : sM) : ∀ (k i fu : Nat), i + k = n → k < fu →
    X12_pour_L158 fu (nI t) (nI p) (nI u) (nI q) (nI n) 0 (nI i) (sD ν 59 0 (fun j => if 60 * u + q ≤ j ∧ j < 60 * u + q + i then rL ν 59 0 (60 * t + p + (j - (60 * u + q))) else rL ν 59 0 j)) = some (1, sD ν 59 0 (fun j => if 60 * u + q ≤ j ∧ j < 60 * u + q + n then rL ν 59 0 (60 * t + p + (j - (60 * u + q))) else rL ν 59 0 j))
  | 0, i, fu + 1, e, _ => by
    unfold X12_pour_L158
    rw [if_pos (nI_le (by omega) (by omega)), show i = n by omega]
  | k + 1, i, fu + 1, e, hf => by
    unfold X12_pour_L158 X12_pour_J182
    rw [if_neg (nI_ge (by omega) (by omega)), if_pos rfl, l60, l60, nI_add, nI_add, if_pos (inb_nI (by omega) (by omega)), if_pos (inb_nI (by omega) (by omega)), ix_nI (by omega), ix_nI (by omega), nI_1, sD_s, if_neg (by omega), wL_sD]
    rw [← pourF h hs ν k (i + 1) fu (by omega) (by omega)]
    congr 1
    apply sD_c
    intro j
    by_cases c : j = 60 * u + q + i
    · rw [if_pos c, if_pos (by omega), show 60 * t + p + (j - (60 * u + q)) = 60 * t + p + i by omega]
    · rw [if_neg c]
      by_cases d : 60 * u + q ≤ j ∧ j < 60 * u + q + i
      · rw [if_pos d, if_pos (by omega)]
      · rw [if_neg d, if_neg (by omega)]
theorem nsub {a b : Nat} (h : b ≤ a) (ha : a < 2 ^ 31) : nI a - nI b = nI (a - b) := by
  apply Int32.toInt_inj.mp
  have e1 := nI_toInt ha
  have e2 := nI_toInt (n := b) (by omega)
  rw [tS (by omega) (by omega), e1, e2, nI_toInt (by omega)]
  omega
theorem pourB {t u p q n : Nat} (h : t < 4 ∧ u < 4 ∧ p + n ≤ 60 ∧ q + n ≤ 60) (hs : 60 * t + p ≤ 60 * u + q ∨ 60 * u + q + n ≤ 60 * t + p) (ν : sM) : ∀ (k i fu : Nat), i + k = n → k < fu →
    X12_pour_L158 fu (nI t) (nI p) (nI u) (nI q) (nI n) 1 (nI i) (sD ν 59 0 (fun j => if 60 * u + q + (n - i) ≤ j ∧ j < 60 * u + q + n then rL ν 59 0 (60 * t + p + (j - (60 * u + q))) else rL ν 59 0 j)) = some (1, sD ν 59 0 (fun j => if 60 * u + q ≤ j ∧ j < 60 * u + q + n then rL ν 59 0 (60 * t + p + (j - (60 * u + q))) else rL ν 59 0 j))
  | 0, i, fu + 1, e, _ => by
    unfold X12_pour_L158
    rw [if_pos (nI_le (by omega) (by omega)), show n - i = 0 by omega, Nat.add_zero]
  | k + 1, i, fu + 1, e, hf => by
    unfold X12_pour_L158 X12_pour_J182
    have en : nI n - 1 - nI i = nI (n - 1 - i) := by
      rw [show nI n - 1 = nI n - nI 1 from rfl, nsub (by omega) (by omega), nsub (by omega) (by omega)]
    rw [if_neg (nI_ge (by omega) (by omega)), if_neg n10, en, l60, l60, nI_add, nI_add, if_pos (inb_nI (by omega) (by omega)), if_pos (inb_nI (by omega) (by omega)), ix_nI (by omega), ix_nI (by omega), nI_1, sD_s, if_neg (by omega), wL_sD]
    rw [← pourB h hs ν k (i + 1) fu (by omega) (by omega)]
    congr 1
    apply sD_c
    intro j
    by_cases c : j = 60 * u + q + (n - 1 - i)
    · rw [if_pos c, if_pos (by omega), show 60 * t + p + (j - (60 * u + q)) = 60 * t + p + (n - 1 - i) by omega]
    · rw [if_neg c]
      by_cases d : 60 * u + q + (n - i) ≤ j ∧ j < 60 * u + q + n
      · rw [if_pos d, if_pos (by omega)]
      · rw [if_neg d, if_neg (by omega)]
theorem m_pour (a1 a2 a3 a4 a5 : Int32) : BoI B (X11_pour a1 a2 a3 a4 a5) (X12_pour a1 a2 a3 a4 a5) := fun μ ν h => by
  have hT := h.2.2.1
  unfold X11_pour X12_pour
  rw [isT_e, bI_s]
  simp only [lg_p, lg_n, Int64.lt_iff_toInt_lt, Int64.le_iff_toInt_le, tX, addL]
  simp only [lt_i, le_i, t0, show (4 : Int32).toInt = 4 from rfl]
  by_cases c1 : 0 ≤ a1.toInt ∧ a1.toInt < 4
  · obtain ⟨t, rfl, ht, ht'⟩ := seg_nI c1.1 (n := 4) (by omega) (by omega)
    have i4 : inb (nI t) 4 = true := inb_nI ht (by omega)
    have f1 : ¬ (nI t).toInt < 0 := by omega
    have f2 : ¬ 4 ≤ (nI t).toInt := by omega
    rw [if_pos c1, if_neg n10, isT_e, bI_s]
    by_cases c2 : 0 ≤ a3.toInt ∧ a3.toInt < 4
    · obtain ⟨u, rfl, hu, hu'⟩ := seg_nI c2.1 (n := 4) (by omega) (by omega)
      have j4 : inb (nI u) 4 = true := inb_nI hu (by omega)
      have f3 : ¬ (nI u).toInt < 0 := by omega
      have f4 : (nI u).toInt < 4 := by omega
      rw [if_pos c2, if_neg n10, miss_e hT ht, bI_s]
      simp only [f1, f2, f3, f4, i4, j4, ↓reduceIte, ix_nI (show t < 2 ^ 31 by omega), ix_nI (show u < 2 ^ 31 by omega)]
      by_cases c3 : 0 ≤ (rI ν 58 0 t).toInt
      · rw [if_pos c3, if_pos rfl, if_neg (show ¬ (rI ν 58 0 t).toInt < 0 by omega), miss_e hT hu, bI_s]
        by_cases c4 : 0 ≤ (rI ν 58 0 u).toInt
        · have z1 := (hT t ht).2.resolve_left (fun z => by rw [z, m1_q] at c3; omega)
          have z2 := (hT u hu).2.resolve_left (fun z => by rw [z, m1_q] at c4; omega)
          have r1 := z1.1
          have r2 := z2.1
          unfold rg at r1 r2
          rw [if_pos c4, if_pos rfl, if_pos c4, z1.2.1, z2.2.1]
          by_cases c5 : rI ν 57 0 t = rI ν 57 0 u
          · rw [if_pos c5, if_pos c5]
            by_cases c6 : 0 ≤ a5.toInt
            · rw [if_pos c6, if_pos c6, room_e hT ht, bI_s, room_e hT hu, bI_s]
              by_cases c7 : 0 ≤ a2.toInt ∧ a2.toInt + a5.toInt ≤ (rI ν 58 0 t).toInt
              · by_cases c8 : 0 ≤ a4.toInt ∧ a4.toInt + a5.toInt ≤ (rI ν 58 0 u).toInt
                · obtain ⟨p, rfl, hp, hp'⟩ := seg_nI (a := a2) (by omega) (n := 61) (by omega) (by omega)
                  obtain ⟨q, rfl, hq, hq'⟩ := seg_nI (a := a4) (by omega) (n := 61) (by omega) (by omega)
                  obtain ⟨n, rfl, hn, hn'⟩ := seg_nI (a := a5) (by omega) (n := 61) (by omega) (by omega)
                  have hc : cpo (nI p) (nI q) (nI n) 60 60 = true := by
                    unfold cpo
                    rw [nI_clamp (show p < 2 ^ 31 by omega), nI_clamp (show q < 2 ^ 31 by omega), nI_clamp (show n < 2 ^ 31 by omega)]
                    exact decide_eq_true ⟨nI_pos (by omega), nI_pos (by omega), nI_pos (by omega), by omega, by omega⟩
                  have g1 : ¬ (nI p).toInt < 0 := by omega
                  have g2 : ¬ (nI q).toInt < 0 := by omega
                  have g3 : ¬ (rI ν 58 0 t).toInt < (nI p).toInt + (nI n).toInt := by omega
                  rw [if_pos c7, if_neg n10, if_pos c8, if_neg n10, if_pos hc, if_neg g1, if_neg g2, if_neg g3, if_pos c8.2, ix_nI (by omega), ix_nI (by omega), ix_nI (by omega), Nat.zero_add, Nat.zero_add]
                  have eM : (if (nI q).toInt ≤ (nI p).toInt then X12_pour_J153 (nI t) (nI p) (nI u) (nI q) (nI n) 0 (m0 ν) else X12_pour_J153 (nI t) (nI p) (nI u) (nI q) (nI n) 1 (m0 ν)) = some (1, sD (m0 ν) 59 0 (fun j => if 60 * u + q ≤ j ∧ j < 60 * u + q + n then rL ν 59 0 (60 * t + p + (j - (60 * u + q))) else rL ν 59 0 j)) := by
                    unfold X12_pour_J153
                    by_cases d : (nI q).toInt ≤ (nI p).toInt
                    · have z := pourF (t := t) (u := u) (p := p) (q := q) (n := n) ⟨ht, hu, by omega, by omega⟩ (by omega) (m0 ν) n 0 fuN (by omega) (fuN_6 (by omega))
                      rw [sD_id (m0 ν) 59 0 _ (fun j => if_neg (by omega)), nI_0] at z
                      rw [if_pos d, z]
                      rfl
                    · have z := pourB (t := t) (u := u) (p := p) (q := q) (n := n) ⟨ht, hu, by omega, by omega⟩ (by omega) (m0 ν) n 0 fuN (by omega) (fuN_6 (by omega))
                      rw [sD_id (m0 ν) 59 0 _ (fun j => if_neg (by omega)), nI_0] at z
                      rw [if_neg d, z]
                      rfl
                  refine ⟨1, _, _, rfl, eM, Rel_g true false true true h ?_ ?_ ?_ (by simp) (fun _ => ?_) (by simp) (by simp) (by omega)⟩
                  · refine kq_wI rfl (fun k i j hk => ⟨rfl, ?_⟩)
                    rw [rL_cL, if_neg (fun w => by rw [w.1, q40] at hk; cases hk)]
                  · exact kq_sD (fun j => rfl) (kq_wI rfl (kq_wI rfl kq_r))
                  · rw [rI_s, rI_sD, rI_s]
                  · intro w hw
                    have hz := hT w hw
                    refine ⟨hz.1, hz.2.elim Or.inl (fun z => Or.inr ⟨z.1, z.2.1, z.2.2.1, fun j hj => ?_⟩)⟩
                    have rw' := z.1
                    unfold rg at rw'
                    have hj' : (j : Int) < (rI ν 58 0 w).toInt := hj
                    show rL (cL μ 40 t p 40 u q n) 40 w j = rL (sD (m0 ν) 59 0 _) 59 0 (60 * w + j)
                    rw [rL_cL, sD_s]
                    by_cases d : w = u ∧ q ≤ j ∧ j < q + n
                    · rw [if_pos ⟨rfl, d⟩, if_pos (by omega), z1.2.2.2 _ (by omega)]
                      congr 1
                      omega
                    · rw [if_neg (fun y => d y.2), if_neg (by omega)]
                      exact z.2.2.2 j hj
                · refine ⟨0, _, _, ?_, ?_, re_b h 4⟩
                  · rw [if_pos c7, if_neg n10, if_neg c8]; rfl
                  · rw [if_neg (show ¬ a2.toInt < 0 by omega)]
                    by_cases d : a4.toInt < 0
                    · rw [if_pos d]; rfl
                    · rw [if_neg d, if_neg (by omega), if_neg (by omega)]; rfl
              · refine ⟨0, _, _, ?_, ?_, re_b h 4⟩
                · rw [if_neg c7]; rfl
                · by_cases d : a2.toInt < 0
                  · rw [if_pos d]; rfl
                  · rw [if_neg d]
                    by_cases e : a4.toInt < 0
                    · rw [if_pos e]; rfl
                    · rw [if_neg e, if_pos (by omega)]; rfl
            · exact ⟨0, _, _, by rw [if_neg c6]; rfl, by rw [if_neg c6]; rfl, re_b h 6⟩
          · exact ⟨0, _, _, by rw [if_neg c5]; rfl, by rw [if_neg c5]; rfl, re_b h 11⟩
        · exact ⟨0, _, _, by rw [if_neg c4, if_neg n10]; rfl, by rw [if_neg c4]; rfl, re_b h 3⟩
      · exact ⟨0, _, _, by rw [if_neg c3, if_neg n10]; rfl, by rw [if_pos (by omega)]; rfl, re_b h 3⟩
    · refine ⟨0, _, _, by rw [if_neg c2]; rfl, ?_, re_b h 1⟩
      rw [if_neg f1, if_neg f2]
      by_cases d : a3.toInt < 0
      · rw [if_pos d]; rfl
      · rw [if_neg d, if_neg (by omega)]; rfl
  · refine ⟨0, _, _, by rw [if_neg c1]; rfl, ?_, re_b h 1⟩
    by_cases d : a1.toInt < 0
    · rw [if_pos d]; rfl
    · rw [if_neg d, if_pos (by omega)]; rfl
/-! feed -/
def tp (μ ν : sM) (n : Nat) : Prop := rI μ 7 0 1 = nI n ∧ rI ν 13 0 8 = nI n ∧ ∀ j, j < n → rI μ 35 0 j = rI ν 60 0 j ∧ rg (rI ν 60 0 j) (-128) 127
theorem by_r (x : Int8) : rg x.toInt32 (-128) 127 := by
  unfold rg
  rw [Int8.toInt_toInt32]
  have := Int8.le_toInt x
  have := Int8.toInt_lt x
  omega
def qFd (k _ j : Nat) : Bool := !((k == 7 && j == 1) || (k == 35 || (k == 60 || (k == 13 && j == 8))))
theorem ap1 {n fu : Nat} {a v q : Int32} (hq : 8 * q = v) (hv : ¬ v < 0) (hq0 : ¬ q < 0) (t : tp μ ν n) (hn : n < 900) : ∃ μ' ν', X6_append_L3 (fu + 1) a v μ = X6_append_L3 fu a (v + (-8)) μ' ∧ X12_lay_L2 (fu + 1) a q ν = X12_lay_L2 fu a (q + (-1)) ν' ∧ tp μ' ν' (n + 1) ∧ kq qFd μ μ' ∧ kq qFd ν ν' := by
  obtain ⟨t1, t2, t3⟩ := t
  refine ⟨wI (wI μ 35 0 n (Int8.toInt32 (Int32.toInt8 (Int8.toInt32 (Int32.toInt8 (isr a v)))))) 7 0 1 (nI (n + 1)), wI (wI ν 60 0 n (Int8.toInt32 (Int32.toInt8 (Int8.toInt32 (Int32.toInt8 (isr a v)))))) 13 0 8 (nI (n + 1)), ?_, ?_, ⟨rI_s, rI_s, fun j hj => ?_⟩, ?_, ?_⟩
  · rw [X6_append_L3]
    rw [if_neg hv, t1, if_neg (show ¬ (900 : Int32) ≤ nI n from nI_ge (a := n) (b := 900) hn (by omega)), if_pos (inb_nI hn (by omega)), ix_nI (by omega), nI_1]
  · rw [X12_lay_L2]
    rw [if_neg hq0, t2, if_pos (inb_nI hn (by omega)), ix_nI (by omega), nI_1, hq]
  · rw [rI_k (show (35 : Nat) ≠ 7 by decide), rI_k (show (60 : Nat) ≠ 13 by decide)]
    by_cases e : j = n
    · rw [e, rI_s, rI_s]
      exact ⟨rfl, by_r _⟩
    · rw [rI_j e, rI_j e]
      exact t3 j (by omega)
  · exact kq_wI rfl (kq_wI rfl kq_r)
  · exact kq_wI rfl (kq_wI rfl kq_r)
theorem ap4 {n : Nat} (a : Int32) (t : tp μ ν n) (hn : n + 4 ≤ 900) : ∃ μ' ν', X6_append a μ = some μ' ∧ X12_lay a ν = some ν' ∧ tp μ' ν' (n + 4) ∧ kq qFd μ μ' ∧ kq qFd ν ν' := by
  obtain ⟨f, hf⟩ : ∃ f, fuN = f + 5 := ⟨fuN - 5, by unfold fuN; omega⟩
  unfold X6_append X12_lay
  rw [hf]
  obtain ⟨μ1, ν1, a1, b1, t1, k1, l1⟩ := ap1 (fu := f + 4) (a := a) (v := 24) (q := 3) (by decide +kernel) (by decide +kernel) (by decide +kernel) t (by omega)
  obtain ⟨μ2, ν2, a2, b2, t2, k2, l2⟩ := ap1 (fu := f + 3) (a := a) (v := 16) (q := 2) (by decide +kernel) (by decide +kernel) (by decide +kernel) t1 (by omega)
  obtain ⟨μ3, ν3, a3, b3, t3, k3, l3⟩ := ap1 (fu := f + 2) (a := a) (v := 8) (q := 1) (by decide +kernel) (by decide +kernel) (by decide +kernel) t2 (by omega)
  obtain ⟨μ4, ν4, a4, b4, t4, k4, l4⟩ := ap1 (fu := f + 1) (a := a) (v := 0) (q := 0) (by decide +kernel) (by decide +kernel) (by decide +kernel) t3 (by omega)
  refine ⟨μ4, ν4, ?_, ?_, t4, kq_t (kq_t (kq_t k1 k2) k3) k4, kq_t (kq_t (kq_t l1 l2) l3) l4⟩
  · rw [a1, show (24 : Int32) + (-8) = 16 by decide +kernel, a2, show (16 : Int32) + (-8) = 8 by decide +kernel, a3, show (8 : Int32) + (-8) = 0 by decide +kernel, a4]
    rw [X6_append_L3]
    rw [if_pos (by decide +kernel)]
  · rw [b1, show (3 : Int32) + (-1) = 2 by decide +kernel, b2, show (2 : Int32) + (-1) = 1 by decide +kernel, b3, show (1 : Int32) + (-1) = 0 by decide +kernel, b4]
    rw [X12_lay_L2]
    rw [if_pos (by decide +kernel)]
theorem qFd_G : ∀ k i j, qG true true false true k i j = true → qFd k i j = true := by
  intro k i j h
  unfold qG qF qT qV qR qW qK at h
  unfold qFd
  by_cases z : (k = 7 ∧ j = 1) ∨ k = 35 ∨ k = 60 ∨ (k = 13 ∧ j = 8)
  · exfalso
    simp only [Bool.or_eq_true, Bool.and_eq_true, beq_iff_eq, Nat.ble_eq, rk, Bool.true_and, Bool.false_and, Bool.false_or] at h
    omega
  · simp only [Bool.not_eq_true', Bool.or_eq_false_iff, Bool.and_eq_false_iff, beq_eq_false_iff_ne]
    omega
theorem m_feed (a b c d e : Int32) : BoI B (X11_feed a b c d e) (X12_feed a b c d e) := fun μ ν h => by
  obtain ⟨⟨p1, p2, p3⟩, p4, p5⟩ := h.2.2.2.1
  obtain ⟨n, hn, n9, hn'⟩ := rg_nI (b := 900) p2
  unfold X11_feed X12_feed
  rw [p1, hn]
  have ea : nI n + 20 = nI (n + 20) := nI_add n 20
  rw [ea]
  by_cases c1 : n + 20 ≤ 900
  · have g : nI (n + 20) ≤ 900 := nI_le (b := 900) c1 (by omega)
    have t0 : tp μ (wI ν 13 0 1 0) n := ⟨p1.trans hn, by rw [rI_j (by decide)]; exact hn, fun j hj => by rw [rI_k (by decide)]; exact p3 j (by omega)⟩
    obtain ⟨μ1, ν1, a1, b1, t1, k1, l1⟩ := ap4 a t0 (by omega)
    obtain ⟨μ2, ν2, a2, b2, t2, k2, l2⟩ := ap4 b t1 (by omega)
    obtain ⟨μ3, ν3, a3, b3, t3, k3, l3⟩ := ap4 c t2 (by omega)
    obtain ⟨μ4, ν4, a4, b4, t4, k4, l4⟩ := ap4 d t3 (by omega)
    obtain ⟨μ5, ν5, a5, b5, t5, k5, l5⟩ := ap4 e t4 (by omega)
    have K : kq qFd μ μ5 := kq_t (kq_t (kq_t (kq_t k1 k2) k3) k4) k5
    have L : kq qFd (wI ν 13 0 1 0) ν5 := kq_t (kq_t (kq_t (kq_t l1 l2) l3) l4) l5
    rw [if_pos g, if_pos g, a1, bV_s, a2, bV_s, a3, bV_s, a4, bV_s, a5, bV_s, b1, bV_s, b2, bV_s, b3, bV_s, b4, bV_s, b5, bV_s]
    have tn := nI_toInt (n := n + 4 + 4 + 4 + 4 + 4) (by omega)
    refine ⟨nI (n + 4 + 4 + 4 + 4 + 4), _, _, by rw [t5.1], by rw [t5.2.1], Rel_g true true false true h (kq_m K qFd_G) (kq_t (kq_wI rfl kq_r) (kq_m L qFd_G)) ?_ (by simp) (by simp) (fun _ => ⟨⟨?_, ?_, fun j hj => ?_⟩, ?_, ?_⟩) (by simp) (by omega)⟩
    · rw [(K 12 0 0 rfl).1, (L 13 0 0 rfl).1, rI_j (by decide)]
      exact h.1
    · rw [t5.1, t5.2.1]
    · rw [t5.2.1]
      unfold rg
      omega
    · rw [t5.2.1] at hj
      exact t5.2.2 j (by omega)
    · rw [(K 7 0 2 rfl).1, (L 13 0 10 rfl).1, rI_j (by decide)]
      exact p4
    · rw [(K 7 0 3 rfl).1, (L 13 0 11 rfl).1, rI_j (by decide)]
      exact p5
  · have g : ¬ nI (n + 20) ≤ 900 := nI_ge (a := 900) (by omega) (by omega)
    rw [if_neg g, if_neg g]
    exact ⟨_, _, _, rfl, rfl, Rel_q h kq_r (kq_wI rfl kq_r) (by rw [rI_j (by decide)]; exact h.1) (by omega)⟩
end C90
