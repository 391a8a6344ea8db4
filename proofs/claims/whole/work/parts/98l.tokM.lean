/-! 98l: the reference's TOKENS -/
section C98l
variable {ν : sM} {b : Nat → Int32} {n : Nat}
theorem wI_wI (μ : sM) (k i j : Nat) (v w : Int32) : wI (wI μ k i j v) k i j w = wI μ k i j w := by
  refine sM_ext (fun a b c => ?_) (fun _ _ _ => rfl) (fun _ _ _ => rfl)
  rw [rI_wI, rI_wI, rI_wI]
  by_cases q : a = k ∧ c = j ∧ b = i
  · rw [if_pos q, if_pos q]
  · rw [if_neg q, if_neg q, if_neg q]
theorem wI_id {μ : sM} {k i j : Nat} {v : Int32} (h : rI μ k i j = v) : wI μ k i j v = μ := by
  refine sM_ext (fun a b c => ?_) (fun _ _ _ => rfl) (fun _ _ _ => rfl)
  rw [rI_wI]
  by_cases q : a = k ∧ c = j ∧ b = i
  · rw [if_pos q, q.1, q.2.1, q.2.2]; exact h.symm
  · rw [if_neg q]
/-! bytes as the reference looks at them -/
def byF (x : Int32) : Prop := ((x = 10 ∨ x = 32) ↔ (x &&& 255 = 10 ∨ x &&& 255 = 32)) ∧ ((97 ≤ x.toInt ∧ x.toInt ≤ 122) ↔ (97 ≤ (x &&& 255).toInt ∧ (x &&& 255).toInt ≤ 122)) ∧ ((48 ≤ x.toInt ∧ x.toInt ≤ 57) ↔ (48 ≤ (x &&& 255).toInt ∧ (x &&& 255).toInt ≤ 57)) ∧ ((x = 59 ∨ x = 60 ∨ x = 62 ∨ x = 61) ↔ (x &&& 255 = 59 ∨ x &&& 255 = 60 ∨ x &&& 255 = 62 ∨ x &&& 255 = 61)) ∧ (0 ≤ x.toInt → x &&& 255 = x)
theorem byF_k : ∀ k, k < 256 → byF (nI k - 128) := by
  unfold byF
  decide +kernel
theorem byF_e {x : Int32} (h : rg x (-128) 127) : byF x := by
  obtain ⟨k, e1, e2, -⟩ := rg_nI (x := x + 128) (b := 255) (by
    unfold rg at h ⊢
    rw [tA (by rw [show (128 : Int32).toInt = 128 from rfl]; omega) (by rw [show (128 : Int32).toInt = 128 from rfl]; omega), show (128 : Int32).toInt = 128 from rfl]
    omega)
  have e : x = nI k - 128 := by rw [← e1, Int32.add_sub_cancel]
  rw [e]
  exact byF_k k (by omega)
def byt (b : Nat → Int32) (n : Nat) : Prop := ∀ j, j < n → rg (b j) (-128) 127
def Txt (ν : sM) (b : Nat → Int32) (n : Nat) : Prop := rI ν 13 0 9 = nI n ∧ n ≤ 900 ∧ (∀ j, j < n → rI ν 60 0 j = b j) ∧ byt b n
theorem look_in (h : Txt ν b n) {j : Nat} (hj : j < n) : X12_look2 (nI j) ν = some (b j &&& 255, ν) := by
  have := h.2.1
  unfold X12_look2
  rw [h.1, if_neg (nI_ge hj (by omega)), if_pos (inb_nI (by omega) (by omega)), ix_nI (by omega), h.2.2.1 j hj]
theorem look_out (h : Txt ν b n) {j : Nat} (hj : n ≤ j) (hj' : j ≤ 900) : X12_look2 (nI j) ν = some (0, ν) := by
  unfold X12_look2
  rw [h.1, if_pos (nI_le hj (by omega))]
theorem mL1 {x : Int32} (h : 97 ≤ x.toInt ∧ x.toInt ≤ 122) : X12_isLetter x ν = some (1, ν) := by
  unfold X12_isLetter
  simp only [lt_i, show (97 : Int32).toInt = 97 from rfl, show (122 : Int32).toInt = 122 from rfl]
  rw [if_neg (by omega), if_neg (by omega)]
theorem mL0 {x : Int32} (h : ¬ (97 ≤ x.toInt ∧ x.toInt ≤ 122)) : X12_isLetter x ν = some (0, ν) := by
  unfold X12_isLetter
  simp only [lt_i, show (97 : Int32).toInt = 97 from rfl, show (122 : Int32).toInt = 122 from rfl]
  by_cases c : x.toInt < 97
  · rw [if_pos c]
  · rw [if_neg c, if_pos (by omega)]
theorem mD1 {x : Int32} (h : 48 ≤ x.toInt ∧ x.toInt ≤ 57) : X12_isDigit x ν = some (1, ν) := by
  unfold X12_isDigit
  simp only [lt_i, show (48 : Int32).toInt = 48 from rfl, show (57 : Int32).toInt = 57 from rfl]
  rw [if_neg (by omega), if_neg (by omega)]
theorem mD0 {x : Int32} (h : ¬ (48 ≤ x.toInt ∧ x.toInt ≤ 57)) : X12_isDigit x ν = some (0, ν) := by
  unfold X12_isDigit
  simp only [lt_i, show (48 : Int32).toInt = 48 from rfl, show (57 : Int32).toInt = 57 from rfl]
  by_cases c : x.toInt < 48
  · rw [if_pos c]
  · rw [if_neg c, if_pos (by omega)]
theorem lookL1 (h : Txt ν b n) {j : Nat} (hj : j < n) (hL : isL b j) : X12_look2 (nI j) ν = some (b j, ν) := by
  rw [look_in h hj, (byF_e (h.2.2.2 j hj)).2.2.2.2 (by have := hL.1; omega)]
theorem lookD1 (h : Txt ν b n) {j : Nat} (hj : j < n) (hL : isD b j) : X12_look2 (nI j) ν = some (b j, ν) := by
  rw [look_in h hj, (byF_e (h.2.2.2 j hj)).2.2.2.2 (by have := hL.1; omega)]
theorem lookL0 (h : Txt ν b n) {j : Nat} (hj : j ≤ 900) (hL : n ≤ j ∨ ¬ isL b j) : ∃ y, X12_look2 (nI j) ν = some (y, ν) ∧ X12_isLetter y ν = some (0, ν) := by
  by_cases c : n ≤ j
  · exact ⟨0, look_out h c hj, mL0 (by rw [t0]; omega)⟩
  · have hL' : ¬ isL b j := by
      rcases hL with z | z
      · omega
      · exact z
    exact ⟨_, look_in h (by omega), mL0 (fun z => hL' ((byF_e (h.2.2.2 j (by omega))).2.1.mpr z))⟩
theorem lookD0 (h : Txt ν b n) {j : Nat} (hj : j ≤ 900) (hL : n ≤ j ∨ ¬ isD b j) : ∃ y, X12_look2 (nI j) ν = some (y, ν) ∧ X12_isDigit y ν = some (0, ν) := by
  by_cases c : n ≤ j
  · exact ⟨0, look_out h c hj, mD0 (by rw [t0]; omega)⟩
  · have hL' : ¬ isD b j := by
      rcases hL with z | z
      · omega
      · exact z
    exact ⟨_, look_in h (by omega), mD0 (fun z => hL' ((byF_e (h.2.2.2 j (by omega))).2.2.1.mpr z))⟩
theorem Txt_c {ν' : sM} (h : Txt ν b n) (a : kq (fun k _ j => (k == 60 || (k == 13 && j == 9))) ν ν') : Txt ν' b n := ⟨((a 13 0 9 rfl).1).trans h.1, h.2.1, fun j hj => ((a 60 0 j rfl).1).trans (h.2.2.1 j hj), h.2.2.2⟩
theorem Txt_13 {j : Nat} {v : Int32} (h : Txt ν b n) (hj : j ≠ 9) : Txt (wI ν 13 0 j v) b n := ⟨by rw [rI_j (fun q => hj q.symm)]; exact h.1, h.2.1, fun i hi => by rw [rI_k (by decide)]; exact h.2.2.1 i hi, h.2.2.2⟩
theorem Txt_L {j : Nat} {v : Int64} (h : Txt ν b n) : Txt (wL ν 13 0 j v) b n := h
/-! blanks -/
theorem ad_l8 {s : Nat} (hs : s ≤ n) (he : n ≤ s ∨ ¬ isB b s) : ∀ (k p fu : Nat) (ν : sM), Txt ν b n → p + k = s → k < fu → (∀ j, p ≤ j → j < s → j < n ∧ isB b j) → rI ν 13 0 15 = nI p → X12_advance_L8 fu ν = X12_advance_J58 (wI ν 13 0 15 (nI s))
  | 0, p, fu + 1, ν, hT, h, _, hB, h15 => by
    have e : p = s := by omega
    subst e
    have hn := hT.2.1
    rw [X12_advance_L8, wI_id h15]
    rw [hT.1, h15]
    by_cases c : n ≤ p
    · rw [if_pos (nI_le c (by omega))]
    · have hB0 : ¬ isB b p := by
        rcases he with z | z
        · omega
        · exact z
      have f := (byF_e (hT.2.2.2 p (by omega))).1
      have g : ¬ (b p &&& 255 = 10 ∨ b p &&& 255 = 32) := fun z => hB0 (f.mpr z)
      rw [if_neg (nI_ge (by omega) (by omega)), look_in hT (by omega), bI_s, if_neg (fun z => g (Or.inl z)), h15, look_in hT (by omega), bI_s, if_neg (fun z => g (Or.inr z))]
  | k + 1, p, fu + 1, ν, hT, h, hf, hB, h15 => by
    have hn := hT.2.1
    have hp := hB p (Nat.le_refl p) (by omega)
    have f := (byF_e (hT.2.2.2 p hp.1)).1.mp hp.2
    have ih := ad_l8 (s := s) hs he k (p + 1) fu (wI ν 13 0 15 (nI (p + 1))) (Txt_13 hT (by decide)) (by omega) (by omega) (fun j a c => hB j (by omega) c) rI_s
    rw [wI_wI] at ih
    rw [X12_advance_L8]
    unfold X12_advance_J45
    rw [hT.1, h15, if_neg (nI_ge (by omega) (by omega)), look_in hT hp.1, bI_s]
    by_cases c : b p &&& 255 = 10
    · rw [if_pos c, h15, nI_1, ih]
    · have c2 : b p &&& 255 = 32 := by
        rcases f with z | z
        · exact absurd z c
        · exact z
      rw [if_neg c, h15, look_in hT hp.1, bI_s, if_pos c2, h15, nI_1, ih]
/-! words -/
def qAv (k _ j : Nat) : Bool := !(k == 13 && (Nat.ble 14 j && Nat.ble j 19))
theorem ad_l109 {s q : Nat} (hq : q ≤ n) (he : n ≤ q ∨ ¬ isL b q) : ∀ (k p fu : Nat) (ν : sM), Txt ν b n → p + k = q → k < fu → s ≤ p → (∀ j, p ≤ j → j < q → j < n ∧ isL b j) → rI ν 13 0 16 = nI p → rI ν 13 0 15 = nI s → ∃ ν', X12_advance_L109 fu ν = some ν' ∧ rI ν' 13 0 16 = nI q ∧ rI ν' 13 0 18 = nI (q - s) ∧ (∀ j, j ≠ 16 → j ≠ 18 → rI ν' 13 0 j = rI ν 13 0 j) ∧ kq qAv ν ν' ∧ (q - s ≤ 8 → rL ν' 13 0 19 = e32 (ltr b p k) (rL ν 13 0 19)) ∧ (8 < q - s → (p - s ≤ 8 ∨ rL ν 13 0 19 = -1) → rL ν' 13 0 19 = -1)
  | 0, p, fu + 1, ν, hT, h, _, hs, hL, h16, h15 => by
    have e : p = q := by omega
    subst e
    have hn := hT.2.1
    obtain ⟨y, y1, y2⟩ := lookL0 hT (j := p) (by omega) he
    refine ⟨wI ν 13 0 18 (nI (p - s)), ?_, ?_, rI_s, fun j a c => rI_j c, kq_wI rfl kq_r, fun _ => rfl, fun a c => ?_⟩
    · rw [X12_advance_L109]
      rw [h16, y1, bI_s, y2, bI_s, if_pos rfl, h16, h15, pk_sub hs]
    · rw [rI_j (by decide)]; exact h16
    · rcases c with z | z
      · omega
      · exact z
  | k + 1, p, fu + 1, ν, hT, h, hf, hs, hL, h16, h15 => by
    have hn := hT.2.1
    have hp := hL p (Nat.le_refl p) (by omega)
    obtain ⟨x, x1, x2, x3, x4⟩ := isL_n hp.2
    have key : ∀ W : Int64, ∃ ν', X12_advance_L109 fu (wI (wL ν 13 0 19 W) 13 0 16 (nI (p + 1))) = some ν' ∧ rI ν' 13 0 16 = nI q ∧ rI ν' 13 0 18 = nI (q - s) ∧ (∀ j, j ≠ 16 → j ≠ 18 → rI ν' 13 0 j = rI ν 13 0 j) ∧ kq qAv ν ν' ∧ (q - s ≤ 8 → rL ν' 13 0 19 = e32 (ltr b (p + 1) k) W) ∧ (8 < q - s → (p + 1 - s ≤ 8 ∨ W = -1) → rL ν' 13 0 19 = -1) := by
      intro W
      obtain ⟨ν', e1, e2, e3, e4, e5, e6, e7⟩ := ad_l109 (s := s) hq he k (p + 1) fu (wI (wL ν 13 0 19 W) 13 0 16 (nI (p + 1))) (Txt_13 (Txt_L hT) (by decide)) (by omega) (by omega) (by omega) (fun j a c => hL j (by omega) c) rI_s (by rw [rI_j (by decide)]; exact h15)
      refine ⟨ν', e1, e2, e3, fun j a c => ?_, kq_t (kq_wI rfl (kq_wL rfl kq_r)) e5, fun a => ?_, fun a c => ?_⟩
      · rw [e4 j a c, rI_j a]; rfl
      · rw [e6 a, rL_wI, rL_s]
      · refine e7 a ?_
        rw [rL_wI, rL_s]
        exact c
    rw [X12_advance_L109]
    unfold X12_advance_J166
    rw [h16, lookL1 hT hp.1 hp.2, bI_s, mL1 hp.2, bI_s, if_neg n10, h16, h15, pk_sub hs]
    by_cases c : 8 ≤ p - s
    · obtain ⟨ν', e1, e2, e3, e4, e5, e6, e7⟩ := key (-1)
      refine ⟨ν', ?_, e2, e3, e4, e5, fun a => by omega, fun a _ => e7 a (Or.inr rfl)⟩
      rw [if_pos (show (8 : Int32) ≤ nI (p - s) from nI_le (a := 8) c (by omega)), nI_1, e1]
    · obtain ⟨ν', e1, e2, e3, e4, e5, e6, e7⟩ := key (rL ν 13 0 19 * 32 + Int64.ofNat x)
      refine ⟨ν', ?_, e2, e3, e4, e5, fun a => ?_, fun a _ => e7 a (Or.inl (by omega))⟩
      · have eW : rL ν 13 0 19 * 32 + (b p).toInt64 - 96 = rL ν 13 0 19 * 32 + Int64.ofNat x := by
          rw [x3, nI_l (by omega), show (96 : Int64) = lN 96 from rfl, ← lN_add, show Int64.ofNat x = lN x from rfl, ← Int64.add_assoc, Int64.add_sub_cancel]
        rw [if_neg (show ¬ (8 : Int32) ≤ nI (p - s) from nI_ge (b := 8) (by omega) (by omega)), lookL1 hT hp.1 hp.2, bI_s, eW, h16, nI_1, e1]
      · rw [e6 a, show ltr b p (k + 1) = (ix (b p) - 96) :: ltr b (p + 1) k from rfl, x4]
        rfl
/-! numbers -/
theorem ad_l210 {s q : Nat} (hq : q ≤ n) (he : n ≤ q ∨ ¬ isD b q) : ∀ (k p fu : Nat) (ν : sM), Txt ν b n → p + k = q → k < fu → s ≤ p → (∀ j, p ≤ j → j < q → j < n ∧ isD b j) → rI ν 13 0 16 = nI p → rI ν 13 0 15 = nI s → ∃ ν', X12_advance_L210 fu ν = some ν' ∧ rI ν' 13 0 16 = nI q ∧ rI ν' 13 0 14 = (if q - s ≤ 4 then 2 else 4) ∧ (∀ j, j ≠ 16 → j ≠ 17 → j ≠ 14 → rI ν' 13 0 j = rI ν 13 0 j) ∧ kq qAv ν ν' ∧ (q - s ≤ 4 → ∀ v, rI ν 13 0 17 = nI v → rI ν' 13 0 17 = nI (dgv b p k v))
  | 0, p, fu + 1, ν, hT, h, _, hs, hL, h16, h15 => by
    have e : p = q := by omega
    subst e
    have hn := hT.2.1
    obtain ⟨y, y1, y2⟩ := lookD0 hT (j := p) (by omega) he
    refine ⟨wI ν 13 0 14 (if p - s ≤ 4 then 2 else 4), ?_, ?_, rI_s, fun j a c d => rI_j d, kq_wI rfl kq_r, fun _ v hv => ?_⟩
    · rw [X12_advance_L210]
      rw [h16, y1, bI_s, y2, bI_s, if_pos rfl, h16, h15, pk_sub hs]
      by_cases c : p - s ≤ 4
      · rw [if_pos (show nI (p - s) ≤ 4 from nI_le (b := 4) c (by omega)), if_pos c]
      · rw [if_neg (show ¬ nI (p - s) ≤ 4 from nI_ge (a := 4) (by omega) (by omega)), if_neg c]
    · rw [rI_j (by decide)]; exact h16
    · rw [rI_j (by decide)]; exact hv
  | k + 1, p, fu + 1, ν, hT, h, hf, hs, hL, h16, h15 => by
    have hn := hT.2.1
    have hp := hL p (Nat.le_refl p) (by omega)
    obtain ⟨x, x9, x3, x4⟩ := isD_n hp.2
    rw [X12_advance_L210]
    unfold X12_advance_J260
    rw [h16, lookD1 hT hp.1 hp.2, bI_s, mD1 hp.2, bI_s, if_neg n10, h16, h15, pk_sub hs]
    by_cases c : 4 ≤ p - s
    · obtain ⟨ν', e1, e2, e3, e4, e5, e6⟩ := ad_l210 (s := s) hq he k (p + 1) fu (wI ν 13 0 16 (nI (p + 1))) (Txt_13 hT (by decide)) (by omega) (by omega) (by omega) (fun j a d => hL j (by omega) d) rI_s (by rw [rI_j (by decide)]; exact h15)
      refine ⟨ν', ?_, e2, e3, fun j a d g => by rw [e4 j a d g, rI_j a], kq_t (kq_wI rfl kq_r) e5, fun a => by omega⟩
      rw [if_pos (show (4 : Int32) ≤ nI (p - s) from nI_le (a := 4) c (by omega)), nI_1, e1]
    · obtain ⟨ν', e1, e2, e3, e4, e5, e6⟩ := ad_l210 (s := s) hq he k (p + 1) fu (wI (wI ν 13 0 17 (10 * rI ν 13 0 17 + b p - 48)) 13 0 16 (nI (p + 1))) (Txt_13 (Txt_13 hT (by decide)) (by decide)) (by omega) (by omega) (by omega) (fun j a d => hL j (by omega) d) rI_s (by rw [rI_j (by decide), rI_j (by decide)]; exact h15)
      refine ⟨ν', ?_, e2, e3, fun j a d g => by rw [e4 j a d g, rI_j a, rI_j d], kq_t (kq_wI rfl (kq_wI rfl kq_r)) e5, fun a v hv => ?_⟩
      · rw [if_neg (show ¬ (4 : Int32) ≤ nI (p - s) from nI_ge (b := 4) (by omega) (by omega)), lookD1 hT hp.1 hp.2, bI_s, show rI (wI ν 13 0 17 (10 * rI ν 13 0 17 + b p - 48)) 13 0 16 = nI p by rw [rI_j (by decide)]; exact h16, nI_1, e1]
      · rw [e6 a (v * 10 + x) (by
          rw [rI_j (by decide), rI_s, hv, x3, show (10 : Int32) = nI 10 from rfl, show (48 : Int32) = nI 48 from rfl, pk_mul, nI_add, pk_sub (by omega)]
          congr 1
          omega)]
        show _ = nI (dgv b (p + 1) k (v * 10 + (ix (b p) - 48)))
        rw [x4]
/-! one TOKEN -/
/-- the TOKEN that the reference looks at -/
def TR (K : Nat) (V : Int64) (ν : sM) : Prop :=
  (K ≤ 28 ∧ rI ν 13 0 14 = 1 ∧ (∀ k, k < 27 → (rL ν 13 0 19 = kw k ↔ K = k)) ∧ ((K = 28 ∧ ¬ rI ν 13 0 18 ≤ 8) ∨ (K ≤ 27 ∧ rI ν 13 0 18 ≤ 8 ∧ nmR V (rL ν 13 0 19)))) ∨
  (K = 29 ∧ rI ν 13 0 14 = 2 ∧ ∃ v, v ≤ 9999 ∧ V = lN v ∧ rI ν 13 0 17 = nI v) ∨
  (K = 30 ∧ rI ν 13 0 14 = 3 ∧ V = (rI ν 13 0 17).toInt64 ∧ (rI ν 13 0 17 = 59 ∨ rI ν 13 0 17 = 60 ∨ rI ν 13 0 17 = 62 ∨ rI ν 13 0 17 = 61)) ∨
  (K = 31 ∧ rI ν 13 0 14 = 4) ∨ (K = 32 ∧ rI ν 13 0 14 = 0)
theorem adv_e {p K s e : Nat} {V : Int64} (hT : Txt ν b n) (hp : p ≤ n) (h16 : rI ν 13 0 16 = nI p) (hK : Tok b n p K V s e) : ∃ ν', X12_advance ν = some ν' ∧ TR K V ν' ∧ rI ν' 13 0 15 = nI s ∧ (K < 31 → rI ν' 13 0 16 = nI e) ∧ kq qAv ν ν' := by
  obtain ⟨hS, hK⟩ := hK
  have hn := hT.2.1
  have hsn := Sp_n hS hp
  have hps := hS.1
  have e1 := ad_l8 hsn hS.2.2 (s - p) p fuN (wI ν 13 0 15 (nI p)) (Txt_13 hT (by decide)) (by omega) (fuN_6 (by omega)) hS.2.1 rI_s
  rw [wI_wI] at e1
  unfold X12_advance
  rw [h16, e1]
  unfold X12_advance_J58
  have h9 : rI (wI ν 13 0 15 (nI s)) 13 0 9 = nI n := by rw [rI_j (by decide)]; exact hT.1
  have k0 : kq qAv ν (wI (wI ν 13 0 15 (nI s)) 13 0 16 (nI s)) := kq_wI rfl (kq_wI rfl kq_r)
  have T1 : Txt (wI (wI ν 13 0 15 (nI s)) 13 0 16 (nI s)) b n := Txt_13 (Txt_13 hT (by decide)) (by decide)
  rw [rI_s, h9]
  rcases hK with ⟨c, rfl, rfl⟩ | ⟨c, cL, q, hq, sq, rfl, hK⟩ | ⟨c, cL, cD, q, hq, sq, hK⟩ | ⟨c, cL, cD, hK⟩
  · refine ⟨_, by rw [if_neg (nI_nlt c (by omega))], Or.inr (Or.inr (Or.inr (Or.inr ⟨rfl, rI_s⟩))), ?_, fun z => by omega, kq_wI rfl k0⟩
    rw [rI_j (by decide), rI_j (by decide), rI_s]
  · have hqn := Sp_n hq (by omega)
    obtain ⟨ν', e2, e3, e4, e5, e6, e7, e8⟩ := ad_l109 (s := s) hqn hq.2.2 (e - s) s fuN (wL (wI (wI (wI ν 13 0 15 (nI s)) 13 0 16 (nI s)) 13 0 14 1) 13 0 19 0) (Txt_L (Txt_13 T1 (by decide))) (by omega) (fuN_6 (by omega)) (Nat.le_refl s) hq.2.1 (by rw [rI_wL, rI_j (by decide), rI_s]) (by rw [rI_wL, rI_j (by decide), rI_j (by decide), rI_s])
    rw [rL_s] at e7 e8
    have t14 : rI ν' 13 0 14 = 1 := by rw [e5 14 (by decide) (by decide), rI_wL, rI_s]
    have t15 : rI ν' 13 0 15 = nI s := by rw [e5 15 (by decide) (by decide), rI_wL, rI_j (by decide), rI_j (by decide), rI_s]
    refine ⟨ν', ?_, Or.inl ?_, t15, fun _ => e3, kq_t (kq_wL rfl (kq_wI rfl k0)) e6⟩
    · rw [if_pos (nI_lt c (by omega)), lookL1 T1 c cL, bI_s, mL1 cL, bI_s, if_neg n10, e2]
    · rcases hK with ⟨l8, rfl⟩ | ⟨l8, K27, hV, hk⟩
      · refine ⟨by omega, t14, fun k hk => ?_, Or.inl ⟨rfl, ?_⟩⟩
        · rw [e8 l8 (Or.inl (by omega))]
          exact ⟨fun z => absurd z (kw_m1 k hk), fun z => by omega⟩
        · rw [e4]
          exact nI_ge (a := 8) (by omega) (by omega)
      · have o8 : ok8 (ltr b s (e - s)) := ⟨by rw [ltr_len]; exact l8, ltr_ok b (e - s) s (fun j a d => (hq.2.1 j a (by omega)).2)⟩
        refine ⟨by omega, t14, fun k hk' => ?_, Or.inr ⟨K27, ?_, ltr b s (e - s), o8.1, o8.2, hV, e7 l8⟩⟩
        · rw [e7 l8]
          unfold kw
          rw [e32_i o8 (kw_ok hk')]
          exact hk k hk'
        · rw [e4]
          exact nI_le (b := 8) l8 (by omega)
  · have hqn := Sp_n hq (by omega)
    obtain ⟨ν', e2, e3, e4, e5, e6, e7⟩ := ad_l210 (s := s) hqn hq.2.2 (q - s) s fuN (wI (wI (wI ν 13 0 15 (nI s)) 13 0 16 (nI s)) 13 0 17 0) (Txt_13 T1 (by decide)) (by omega) (fuN_6 (by omega)) (Nat.le_refl s) hq.2.1 (by rw [rI_j (by decide), rI_s]) (by rw [rI_j (by decide), rI_j (by decide), rI_s])
    have t15 : rI ν' 13 0 15 = nI s := by rw [e5 15 (by decide) (by decide) (by decide), rI_j (by decide), rI_j (by decide), rI_s]
    have eL : ¬ (97 ≤ (b s).toInt ∧ (b s).toInt ≤ 122) := cL
    have eA : (if nI s < nI n then bI (X12_look2 (nI s) (wI (wI ν 13 0 15 (nI s)) 13 0 16 (nI s))) fun x1 μ2 => bI (X12_isLetter x1 μ2) fun x3 μ4 => if x3 = 0 then bI (X12_isDigit x1 μ4) fun x5 μ6 => if x5 = 0 then bI (X12_isSignByte x1 (wI (wI μ6 13 0 16 ((rI μ6 13 0 15) + 1)) 13 0 17 x1)) fun x7 μ8 => if x7 = 0 then some (wI μ8 13 0 14 4) else some (wI μ8 13 0 14 3) else X12_advance_L210 fuN (wI μ6 13 0 17 0) else X12_advance_L109 fuN (wL (wI μ4 13 0 14 1) 13 0 19 0) else some (wI (wI (wI ν 13 0 15 (nI s)) 13 0 16 (nI s)) 13 0 14 0)) = some ν' := by
      rw [if_pos (nI_lt c (by omega)), lookD1 T1 c cD, bI_s, mL0 eL, bI_s, if_pos rfl, mD1 cD, bI_s, if_neg n10, e2]
    rcases hK with ⟨l4, rfl, rfl⟩ | ⟨l4, rfl, rfl, hV⟩
    · refine ⟨ν', eA, Or.inr (Or.inr (Or.inr (Or.inl ⟨rfl, ?_⟩))), t15, fun z => by omega, kq_t (kq_wI rfl k0) e6⟩
      rw [e4, if_neg (by omega)]
    · refine ⟨ν', eA, Or.inr (Or.inl ⟨rfl, ?_, dgv b s (e - s) 0, ?_, hV, ?_⟩), t15, fun _ => e3, kq_t (kq_wI rfl k0) e6⟩
      · rw [e4, if_pos l4]
      · have z := dgv_b b (e - s) s 0 (fun j a d => (hq.2.1 j a (by omega)).2)
        have y : 10 ^ (e - s) ≤ 10 ^ 4 := Nat.pow_le_pow_right (by omega) l4
        omega
      · exact e7 l4 0 (by rw [rI_s]; rfl)
  · have eL : ¬ (97 ≤ (b s &&& 255).toInt ∧ (b s &&& 255).toInt ≤ 122) := fun z => cL ((byF_e (hT.2.2.2 s c)).2.1.mpr z)
    have eD : ¬ (48 ≤ (b s &&& 255).toInt ∧ (b s &&& 255).toInt ≤ 57) := fun z => cD ((byF_e (hT.2.2.2 s c)).2.2.1.mpr z)
    have fS := (byF_e (hT.2.2.2 s c)).2.2.2.1
    rw [if_pos (nI_lt c (by omega)), look_in T1 c, bI_s, mL0 eL, bI_s, if_pos rfl, mD0 eD, bI_s, if_pos rfl, rI_j (show (15 : Nat) ≠ 16 by decide), rI_s, nI_1]
    rcases hK with ⟨cS, rfl, rfl, hV⟩ | ⟨cS, rfl, rfl⟩
    · have eS : X12_isSignByte (b s &&& 255) (wI (wI (wI (wI ν 13 0 15 (nI s)) 13 0 16 (nI s)) 13 0 16 (nI (s + 1))) 13 0 17 (b s &&& 255)) = some (1, wI (wI (wI (wI ν 13 0 15 (nI s)) 13 0 16 (nI s)) 13 0 16 (nI (s + 1))) 13 0 17 (b s &&& 255)) := by
        unfold X12_isSignByte
        by_cases c1 : b s &&& 255 = 59
        · rw [if_pos c1]
        · by_cases c2 : b s &&& 255 = 60
          · rw [if_neg c1, if_pos c2]
          · by_cases c3 : b s &&& 255 = 62
            · rw [if_neg c1, if_neg c2, if_pos c3]
            · rw [if_neg c1, if_neg c2, if_neg c3, if_pos]
              rcases fS.mp cS with z | z | z | z
              · exact absurd z c1
              · exact absurd z c2
              · exact absurd z c3
              · exact z
      have e0 : b s &&& 255 = b s := (byF_e (hT.2.2.2 s c)).2.2.2.2 (by
        rcases cS with z | z | z | z <;> rw [z] <;> decide +kernel)
      refine ⟨_, by rw [eS, bI_s, if_neg n10], Or.inr (Or.inr (Or.inl ⟨rfl, rI_s, ?_, ?_⟩)), ?_, fun _ => ?_, kq_wI rfl (kq_wI rfl (kq_wI rfl k0))⟩
      · rw [rI_j (by decide), rI_s, e0]; exact hV
      · rw [rI_j (by decide), rI_s]; exact fS.mp cS
      · rw [rI_j (by decide), rI_j (by decide), rI_j (by decide), rI_j (by decide), rI_s]
      · rw [rI_j (by decide), rI_j (by decide), rI_s]
    · have eS : X12_isSignByte (b s &&& 255) (wI (wI (wI (wI ν 13 0 15 (nI s)) 13 0 16 (nI s)) 13 0 16 (nI (s + 1))) 13 0 17 (b s &&& 255)) = some (0, wI (wI (wI (wI ν 13 0 15 (nI s)) 13 0 16 (nI s)) 13 0 16 (nI (s + 1))) 13 0 17 (b s &&& 255)) := by
        unfold X12_isSignByte
        rw [if_neg (fun z => cS (fS.mpr (Or.inl z))), if_neg (fun z => cS (fS.mpr (Or.inr (Or.inl z)))), if_neg (fun z => cS (fS.mpr (Or.inr (Or.inr (Or.inl z))))), if_neg (fun z => cS (fS.mpr (Or.inr (Or.inr (Or.inr z)))))]
      refine ⟨_, by rw [eS, bI_s, if_pos rfl], Or.inr (Or.inr (Or.inr (Or.inl ⟨rfl, rI_s⟩))), ?_, fun z => by omega, kq_wI rfl (kq_wI rfl (kq_wI rfl k0))⟩
      rw [rI_j (by decide), rI_j (by decide), rI_j (by decide), rI_j (by decide), rI_s]
end C98l
