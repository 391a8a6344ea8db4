/-! 98p: PARTS of a RIVER's text, on both sides -/
section C98p
variable {μ ν : sM} {b : Nat → Int32} {n i m K s : Nat} {V : Int64}
def PRr (μ ν : sM) (b : Nat → Int32) (n i : Nat) (X : Option (Int32 × sM)) (M : Option sM) : Prop :=
  (∃ μ' ν' i' m' K' V' s', i + 2 ≤ i' ∧ X = some (1, μ') ∧ M = some ν' ∧ CS μ' ν' b n i' m' K' V' s' ∧ RV μ' ν' ∧ FXr μ μ' ∧ kq qMr ν ν') ∨ (∃ μ' ν', X = some (0, μ') ∧ M = some ν' ∧ FS μ' ν' ∧ FXr μ μ' ∧ kq qMr ν ν')
abbrev ckI (x : Int32) (μ : sM) : Option (Int32 × sM) := if x = 0 ∨ x = 1 then some (x, μ) else none
theorem endR {μ1 ν1 : sM} {i1 : Nat} (h : CS μ1 ν1 b n i1 m K V s) (hR : RV μ1 ν1) (hi : i + 1 ≤ i1) (a : FXr μ μ1) (c : kq qMr ν ν1) : PRr μ ν b n i (bI (X6_takeEnd μ1) ckI) (endM ν1) := by
  rcases takeE h with ⟨μ', ν', m', K', V', s', e1, e2, C', f1, f2⟩ | ⟨μ', ν', e1, e2, r, f1, f2⟩
  · exact Or.inl ⟨μ', ν', i1 + 1, m', K', V', s', by omega, by rw [e1, bI_s]; rfl, e2, C', RV_t hR f1 f2, FXr_t a (FX_x f1), kq_t c (FM_x f2)⟩
  · exact Or.inr ⟨μ', ν', by rw [e1, bI_s]; rfl, e2, r, FXr_t a (FX_x f1), kq_t c (FM_x f2)⟩
theorem FS_b (h : FS μ ν) : ∃ f, 1 ≤ f ∧ f ≤ 7 ∧ rI ν 13 0 12 = nI f := by
  obtain ⟨f, s, f1, f7, -, -, q, -⟩ := h
  exact ⟨f, f1, f7, q⟩
/-- a WORD, then a NUMBER -/
theorem behW (h : CS μ ν b n i m K V s) {k lo hi : Nat} (hk : k < 27) (hl : lo ≤ 9999) (hh : hi ≤ 9999) :
    (∃ μ' ν', (X6_takeWord (nI k) μ = some (0, μ') ∨ ∃ μ9, X6_takeWord (nI k) μ = some (1, μ9) ∧ FX μ μ9 ∧ X6_takeNumber (nI lo) (nI hi) μ9 = some (0, μ')) ∧ X12_behindWord (if K = k then 1 else 0) (nI lo) (nI hi) ν = some (0, ν') ∧ FS μ' ν' ∧ FX μ μ' ∧ kq qMt ν ν') ∨
    (∃ v μ9 μ' ν' m' K' V' s', lo ≤ v ∧ v ≤ hi ∧ X6_takeWord (nI k) μ = some (1, μ9) ∧ FX μ μ9 ∧ X6_takeNumber (nI lo) (nI hi) μ9 = some (1, μ') ∧ X12_behindWord (if K = k then 1 else 0) (nI lo) (nI hi) ν = some (nI v, ν') ∧ rI μ' 7 0 6 = nI v ∧ CS μ' ν' b n (i + 2) m' K' V' s' ∧ FX μ μ' ∧ kq qMt ν ν') := by
  unfold X12_behindWord
  rcases takeW h hk with ⟨-, μ9, ν9, m9, K9, V9, s9, e1, e2, C9, f9, g9⟩ | ⟨μ', ν', e1, e2, r, f1, g1⟩
  · rw [e2, bV_s]
    rcases takeN C9 hl hh with ⟨v, μ', ν', m', K', V', s', v1, v2, a1, a2, a3, C', f', g'⟩ | ⟨μ', ν', a1, a2, r, f', g'⟩
    · exact Or.inr ⟨v, μ9, μ', ν', m', K', V', s', v1, v2, e1, f9, a1, by rw [a2, bI_s], a3, C', FX_t f9 f', kq_t g9 g'⟩
    · exact Or.inl ⟨μ', ν', Or.inr ⟨μ9, e1, f9, a1⟩, by rw [a2, bI_s], r, FX_t f9 f', kq_t g9 g'⟩
  · obtain ⟨f, f1', f7, q⟩ := FS_b r
    exact Or.inl ⟨μ', ν', Or.inl e1, by rw [e2, bV_s, b_count q f1' f7, bI_s], r, f1, g1⟩
/-! settings -/
theorem RV_u (hR : RV μ ν) {j p : Nat} {v : Int32} (hj : (j = 9 ∧ p = 0) ∨ (j = 3 ∧ p = 1) ∨ (j = 4 ∧ p = 2) ∨ (j = 5 ∧ p = 3)) (hv : okv 0 (fun j => rI ν 61 0 (348 * 4 + j)) j v) : RV (wI μ 5 4 p v) (wI ν 61 0 (1392 + j) v) := by
  obtain ⟨⟨hV, ok, hN, h6⟩, ⟨p1, p2, p3⟩, hz⟩ := hR
  have eg : (fun c => rI (wI ν 61 0 (1392 + j) v) 61 0 (348 * 4 + c)) = upd (fun c => rI ν 61 0 (348 * 4 + c)) j v := by
    funext c
    unfold upd
    by_cases e : c = j
    · rw [if_pos e, e]
      exact rI_s
    · rw [if_neg e, rI_j (by omega)]
  have z := Riv_u (j := j) (v := v) hV ⟨_, ok⟩ (by omega)
  have ez : clk j = 5 ∧ clp j = p := by
    rcases hj with ⟨rfl, rfl⟩ | ⟨rfl, rfl⟩ | ⟨rfl, rfl⟩ | ⟨rfl, rfl⟩ <;> exact ⟨rfl, rfl⟩
  rw [ez.1, ez.2] at z
  refine ⟨⟨by rw [eg]; exact z, by rw [eg]; exact OkR_u ok hv, ⟨fun c hc => ?_, fun c hc => ?_, fun c hc => ?_⟩, ?_⟩, ⟨?_, p2, p3⟩, fun c hc => ?_⟩
  · rw [rI_j (by omega)] at hc
    exact hN.1 c hc
  · rw [rI_j (by omega)] at hc
    exact hN.2.1 c hc
  · rw [rI_j (by omega)] at hc
    exact hN.2.2 c hc
  · rw [rI_j (by omega)]
    exact h6
  · rw [rI_k (by decide), rI_k (by decide)]
    exact p1
  · rw [rI_j (by omega)]
    exact hz c hc
theorem rdSet {bit cell p most : Nat} (h : CS μ ν b n i m K V s) (hR : RV μ ν) (hK : K = bit) (hc : (bit = 0 ∧ cell = 9 ∧ p = 0 ∧ most = 60) ∨ (bit = 1 ∧ cell = 3 ∧ p = 1 ∧ most = 9) ∨ (bit = 2 ∧ cell = 4 ∧ p = 2 ∧ most = 99) ∨ (bit = 3 ∧ cell = 5 ∧ p = 3 ∧ most = 16)) : PRr μ ν b n i (X5_readSetting (nI most) μ) (bV (X12_readOnce (nI bit) (nI cell) (nI most) ν) endM) := by
  have h5 := h.2.2.1.1
  have h11 := h.2.2.2.2.2.2.1
  have p1 := hR.2.1.1
  have r0 := hR.2.1.2.1
  have r1 := hR.2.1.2.2
  subst hK
  unfold X5_readSetting X12_readOnce X12_has X12_readOnce_J20
  rw [r0, if_pos rfl, h5, p1]
  by_cases c : (isr (rI ν 13 0 25) (nI K) &&& 1) = 1
  · obtain ⟨μ', ν', e1, e2, r, f1, g1⟩ := fail2 h (f := 5) (by omega) (by omega)
    obtain ⟨f, f1', f7, q⟩ := FS_b r
    refine Or.inr ⟨μ', ν', ?_, ?_, r, FX_x f1, FM_x g1⟩
    · rw [if_pos c, if_pos rfl, show (5 : Int32) = nI 5 from rfl, e1, bI_s]
      rfl
    · rw [if_pos c, bI_s, if_neg n10, show (5 : Int32) = nI 5 from rfl, e2, bV_s, q, if_neg (fs_pos f1' f7).1, bV_s, b_end q f1' f7]
  · rw [if_neg c, if_neg c, if_pos rfl, bI_s, if_pos rfl, h11, if_pos (Int32.le_refl 0)]
    have k1 : kq qXr μ (wI μ 6 0 3 (rI ν 13 0 25 ||| isl 1 (nI K))) := kq_wI rfl kq_r
    have k2 : kq qMr ν (wI ν 13 0 25 (rI ν 13 0 25 ||| isl 1 (nI K))) := kq_wI rfl kq_r
    have C1 : CS (wI μ 6 0 3 (rI ν 13 0 25 ||| isl 1 (nI K))) (wI ν 13 0 25 (rI ν 13 0 25 ||| isl 1 (nI K))) b n i m K V s := CS_c h (kq_wI rfl kq_r) (kq_wI rfl kq_r)
    have R1 : RV (wI μ 6 0 3 (rI ν 13 0 25 ||| isl 1 (nI K))) (wI ν 13 0 25 (rI ν 13 0 25 ||| isl 1 (nI K))) := by
      obtain ⟨q1, ⟨q2, q3, q4⟩, q5⟩ := hR
      exact ⟨RelR_c q1 (kq_wI rfl kq_r) (kq_wI rfl kq_r) (Int.le_refl 0), ⟨by rw [rI_s, rI_s], q3, q4⟩, fun j hj => by rw [rI_k (by decide)]; exact q5 j hj⟩
    obtain ⟨μ4, ν4, m4, K4, V4, s4, a1, a2, C4, f4, g4, -⟩ := adv2 C1 (by omega)
    have R4 := RV_t R1 f4 g4
    rw [a1, a2, bV_s, bV_s, R4.2.1.2.1, if_pos rfl]
    rcases takeN C4 (lo := 0) (hi := most) (by omega) (by omega) with ⟨v, μ7, ν7, m7, K7, V7, s7, v1, v2, d1, d2, d3, C7, f7, g7⟩ | ⟨μ7, ν7, d1, d2, r, f7, g7⟩
    · have R7 := RV_t R4 f7 g7
      have tv := nI_toInt (n := v) (by omega)
      have hv : okv 0 (fun j => rI ν7 61 0 (348 * 4 + j)) cell (nI v) := by
        unfold okv rg
        omega
      have R8 := RV_u R7 (j := cell) (p := p) (v := nI v) (by omega) hv
      have C8 : CS (wI μ7 5 4 p (nI v)) (wI ν7 61 0 (1392 + cell) (nI v)) b n (i + 1 + 1) m7 K7 V7 s7 := CS_c C7 (kq_wI rfl kq_r) (kq_wI rfl kq_r)
      have eX : X5_readSetting_J141 (wI μ7 5 4 p (nI v)) = bI (X6_takeEnd (wI μ7 5 4 p (nI v))) ckI := by
        unfold X5_readSetting_J141
        rw [R8.2.1.2.1, if_pos rfl]
      have eF : FXr μ (wI μ7 5 4 p (nI v)) := FXr_t ⟨k1, fun _ _ _ => rfl⟩ (FXr_t (FX_x f4) (FXr_t (FX_x f7) ⟨kq_wI rfl kq_r, fun _ _ _ => rfl⟩))
      have eG : kq qMr ν (wI ν7 61 0 (1392 + cell) (nI v)) := kq_t k2 (kq_t (FM_x g4) (kq_t (FM_x g7) (kq_wI (by unfold qMr; simp [Nat.ble_eq_true_of_le (show 1392 ≤ 1392 + cell by omega)]) kq_r)))
      have fin := endR (μ := μ) (ν := ν) (i := i) C8 R8 (by omega) eF eG
      rw [show (0 : Int32) = nI 0 from rfl, d1, d2, bI_s, bI_s, show (1392 : Int32) = nI 1392 from rfl, nI_add, if_pos (inb_nI (by omega) (by omega)), ix_nI (by omega), bV_s]
      rw [if_neg (show ¬ (1 : Int32) = nI 0 by decide +kernel), R7.2.1.2.1, R7.2.1.2.2, d3]
      rcases hc with ⟨q1, q2, q3, q4⟩ | ⟨q1, q2, q3, q4⟩ | ⟨q1, q2, q3, q4⟩ | ⟨q1, q2, q3, q4⟩
      · subst q3
        rw [q1, if_pos rfl, if_pos rfl, if_pos rfl, eX]
        exact fin
      · subst q3
        rw [q1, if_neg (by decide +kernel), if_pos (show nI 1 = 1 from rfl), if_pos rfl, if_pos rfl, eX]
        exact fin
      · subst q3
        rw [q1, if_neg (by decide +kernel), if_neg (by decide +kernel), if_pos (show nI 2 = 2 from rfl), if_pos rfl, if_pos rfl, eX]
        exact fin
      · subst q3
        rw [q1, if_neg (by decide +kernel), if_neg (by decide +kernel), if_neg (by decide +kernel), if_pos rfl, if_pos rfl, eX]
        exact fin
    · obtain ⟨f, f1', f7', q⟩ := FS_b r
      obtain ⟨f', s', w1, w2, w3, w4, w5, w6⟩ := r
      refine Or.inr ⟨μ7, wI ν7 61 0 (1392 + cell) 0, ?_, ?_, ⟨f', s', w1, w2, w3, w4, by rw [rI_k (by decide)]; exact w5, by rw [rI_k (by decide)]; exact w6⟩, FXr_t ⟨k1, fun _ _ _ => rfl⟩ (FXr_t (FX_x f4) (FX_x f7)), kq_t k2 (kq_t (FM_x g4) (kq_t (FM_x g7) (kq_wI (by unfold qMr; simp [Nat.ble_eq_true_of_le (show 1392 ≤ 1392 + cell by omega)]) kq_r)))⟩
      · rw [show (0 : Int32) = nI 0 from rfl, d1, bI_s, nI_0, if_pos rfl]
      · rw [show (0 : Int32) = nI 0 from rfl, d2, bI_s, show (1392 : Int32) = nI 1392 from rfl, nI_add, if_pos (inb_nI (by omega) (by omega)), ix_nI (by omega), bV_s, nI_0]
        exact b_end (by rw [rI_k (by decide)]; exact q) f1' f7'
/-! REACHES -/
abbrev rT3 (x1 x5 x9 : Int32) (ρ : sM) : Option sM := bI (X12_isHolds ρ) fun x11 μ12 => bI (X12_perhaps x11 μ12) fun x13 μ14 => if x13 = 0 then X12_readReach_J52 x1 x5 x9 0 μ14 else bI (X12_count 0 x5 μ14) fun x15 μ16 => X12_readReach_J52 x1 x5 x9 x15 μ16
abbrev rT2 (x1 x5 : Int32) (ρ : sM) : Option sM := bI (X12_isGate ρ) fun x7 μ8 => bI (X12_behindWord x7 0 99 μ8) fun x9 μ10 => rT3 x1 x5 x9 μ10
abbrev rT1 (x1 : Int32) (ρ : sM) : Option sM := bI (X12_isBank ρ) fun x3 μ4 => bI (X12_behindWord x3 0 999 μ4) fun x5 μ6 => rT2 x1 x5 μ6
theorem b_J52 {f : Nat} (h : rI ν 13 0 12 = nI f) (f1 : 1 ≤ f) (f7 : f ≤ 7) (x y z w : Int32) : X12_readReach_J52 x y z w ν = some ν := by
  unfold X12_readReach_J52
  rw [h, if_neg (fs_pos f1 f7).1]
theorem b_rT3 {f : Nat} (h : rI ν 13 0 12 = nI f) (f1 : 1 ≤ f) (f7 : f ≤ 7) (x y z : Int32) : rT3 x y z ν = some ν := by
  obtain ⟨w, e⟩ := so_Holds ν
  show bI (X12_isHolds ν) _ = _
  rw [e, bI_s, b_perhaps h f1 f7, bI_s, if_pos rfl, b_J52 h f1 f7]
theorem b_rT2 {f : Nat} (h : rI ν 13 0 12 = nI f) (f1 : 1 ≤ f) (f7 : f ≤ 7) (x y : Int32) : rT2 x y ν = some ν := by
  obtain ⟨w, e⟩ := so_Gate ν
  show bI (X12_isGate ν) _ = _
  rw [e, bI_s, b_behind h f1 f7, bI_s, b_rT3 h f1 f7]
theorem b_rT1 {f : Nat} (h : rI ν 13 0 12 = nI f) (f1 : 1 ≤ f) (f7 : f ≤ 7) (x : Int32) : rT1 x ν = some ν := by
  obtain ⟨w, e⟩ := so_Bank ν
  show bI (X12_isBank ν) _ = _
  rw [e, bI_s, b_behind h f1 f7, bI_s, b_rT2 h f1 f7]
theorem perh {k : Nat} (h : CS μ ν b n i m K V s) : X12_perhaps (if K = k then 1 else 0) ν = if K = k then bV (X12_advance ν) (fun μ2 => some (1, μ2)) else some (0, ν) := by
  unfold X12_perhaps
  rw [h.2.2.2.2.2.2.1, if_neg (by decide +kernel)]
  by_cases c : K = k
  · rw [if_pos c, if_neg n10, if_pos c]
  · rw [if_neg c, if_pos rfl, if_neg c]
theorem rdReach (h : CS μ ν b n i m K V s) (hR : RV μ ν) (hK : K < 31) : PRr μ ν b n i (X5_readReach μ) (bV (X12_readReach ν) endM) := by
  have r0 := hR.2.1.2.1
  have r1 := hR.2.1.2.2
  obtain ⟨c0, c1, c2, l0, l1, l2, x0, -, -, y0, -, -⟩ := RV_n hR
  have eM : X12_readReach ν = bI (X12_readNew (nI 0) ν) (fun x1 ρ => rT1 x1 ρ) := rfl
  have fail : ∀ {μ' ν' : sM}, X5_readReach μ = some (0, μ') → X12_readReach ν = some ν' → FS μ' ν' → FXr μ μ' → kq qMr ν ν' → PRr μ ν b n i (X5_readReach μ) (bV (X12_readReach ν) endM) := by
    intro μ' ν' e1 e2 r f1 g1
    obtain ⟨f, f1', f7', q⟩ := FS_b r
    exact Or.inr ⟨μ', ν', e1, by rw [e2, bV_s, b_end q f1' f7'], r, f1, g1⟩
  rcases newN h hR hK (so := 0) (k := c0) (by omega) y0 l0 with ⟨k6, μ', ν', e1, e2, r, f1, g1⟩ | ⟨k6, μ4, e0, hn⟩
  · obtain ⟨f, f1', f7', q⟩ := FS_b r
    refine fail ?_ (by rw [eM, e2, bI_s, b_rT1 q f1' f7']) r f1 g1
    unfold X5_readReach
    rw [r1, if_pos rfl, x0, k6, if_neg (by decide +kernel), r0, if_pos rfl, e1, bI_s]
    rfl
  · have eX : X5_readReach μ = bI (X5_takeNewName μ4) fun x5 μ6 => if x5 = 0 then some (0, μ6) else if (rR μ6 6 0 0) = 1 then bI (X6_takeWord 5 μ6) fun x8 μ9 => if x8 = 0 then some (0, μ9) else if (rR μ9 6 0 0) = 1 then bI (X6_takeNumber 0 999 μ9) fun x11 μ12 => if x11 = 0 then some (0, μ12) else if (rR μ12 6 0 0) = 1 then if (rR μ12 6 0 0) = 1 then bI (X6_takeWord 6 μ12) fun x15 μ16 => if x15 = 0 then some (0, μ16) else if (rR μ16 6 0 0) = 1 then bI (X6_takeNumber 0 99 μ16) fun x18 μ19 => if x18 = 0 then some (0, μ19) else if (rR μ19 6 0 0) = 1 then if (rR μ19 6 0 0) = 1 then if (rI μ19 7 0 4) = 7 then if (rR μ19 6 0 0) = 1 then bV (X6_advance μ19) fun μ24 => if (rR μ24 6 0 0) = 1 then bI (X6_takeNumber 0 (rI μ12 7 0 6) μ24) fun x26 μ27 => if x26 = 0 then some (0, μ27) else if (rR μ27 6 0 0) = 1 then X5_readReach_J152 (rI μ12 7 0 6) (rI μ19 7 0 6) (rI μ27 7 0 6) μ27 else none else none else none else X5_readReach_J152 (rI μ12 7 0 6) (rI μ19 7 0 6) 0 μ19 else none else none else none else none else none else none else none := by
      unfold X5_readReach
      rw [r1, if_pos rfl, x0, if_pos (show nI c0 < 6 from nI_lt (b := 6) k6 (by omega)), r0, if_pos rfl, e0, bV_s]
    rcases hn with ⟨μ', ν', e1, e2, r, f1, g1⟩ | ⟨μ6, ν6, m6, K6, V6, s6, e1, e2, C6, R6, nm6, f6, g6, k61⟩
    · obtain ⟨f, f1', f7', q⟩ := FS_b r
      exact fail (by rw [eX, e1, bI_s, if_pos rfl]) (by rw [eM, e2, bI_s, b_rT1 q f1' f7']) r f1 g1
    · rw [e1, bI_s, if_neg n10, R6.2.1.2.1, if_pos rfl] at eX
      have eM1 : X12_readReach ν = bI (X12_behindWord (if K6 = 5 then 1 else 0) (nI 0) (nI 999) ν6) fun x5 μ6 => rT2 (nI c0) x5 μ6 := by
        rw [eM, e2, bI_s]
        show bI (X12_isBank ν6) _ = _
        rw [is_Bank C6.2.2.2.2.1, bI_s]
        rfl
      rcases behW C6 (k := 5) (lo := 0) (hi := 999) (by omega) (by omega) (by omega) with ⟨μ', ν', eA, eB, r, f1, g1⟩ | ⟨P, μ9, μ12, ν12, m12, K12, V12, s12, -, P9, a1, f9, a2, a3, a4, C12, f12, g12⟩
      · obtain ⟨f, f1', f7', q⟩ := FS_b r
        refine fail ?_ (by rw [eM1, eB, bI_s, b_rT2 q f1' f7']) r (FXr_t f6 (FX_x f1)) (kq_t g6 (FM_x g1))
        rcases eA with eA | ⟨μ9, eA, f9, eA2⟩
        · rw [eX, show (5 : Int32) = nI 5 from rfl, eA, bI_s, if_pos rfl]
        · rw [eX, show (5 : Int32) = nI 5 from rfl, eA, bI_s, if_neg n10, f9.2, R6.2.1.2.1, if_pos rfl, show (0 : Int32) = nI 0 from rfl, show (999 : Int32) = nI 999 from rfl, eA2, bI_s, nI_0, if_pos rfl]
      · have R12 := RV_t R6 f12 g12
        rw [show (5 : Int32) = nI 5 from rfl, a1, bI_s, if_neg n10, f9.2, R6.2.1.2.1, if_pos rfl, show X6_takeNumber 0 999 μ9 = some (1, μ12) from a2, bI_s, if_neg n10, R12.2.1.2.1, if_pos rfl, if_pos rfl, a4] at eX
        have eM2 : X12_readReach ν = bI (X12_behindWord (if K12 = 6 then 1 else 0) (nI 0) (nI 99) ν12) fun x9 μ10 => rT3 (nI c0) (nI P) x9 μ10 := by
          rw [eM1, a3, bI_s]
          show bI (X12_isGate ν12) _ = _
          rw [is_Gate C12.2.2.2.2.1, bI_s]
          rfl
        rcases behW C12 (k := 6) (lo := 0) (hi := 99) (by omega) (by omega) (by omega) with ⟨μ', ν', eA, eB, r, f1, g1⟩ | ⟨G, μ16, μ19, ν19, m19, K19, V19, s19, -, G9, b1, f16, b2, b3, b4, C19, f19, g19⟩
        · obtain ⟨f, f1', f7', q⟩ := FS_b r
          refine fail ?_ (by rw [eM2, eB, bI_s, b_rT3 q f1' f7']) r (FXr_t f6 (FXr_t (FX_x f12) (FX_x f1))) (kq_t g6 (kq_t (FM_x g12) (FM_x g1)))
          rcases eA with eA | ⟨μ16, eA, f16, eA2⟩
          · rw [eX, show (6 : Int32) = nI 6 from rfl, eA, bI_s, if_pos rfl]
          · rw [eX, show (6 : Int32) = nI 6 from rfl, eA, bI_s, if_neg n10, f16.2, R12.2.1.2.1, if_pos rfl, show X6_takeNumber 0 99 μ16 = some (0, μ') from eA2, bI_s, if_pos rfl]
        · have R19 := RV_t R12 f19 g19
          rw [show (6 : Int32) = nI 6 from rfl, b1, bI_s, if_neg n10, f16.2, R12.2.1.2.1, if_pos rfl, show X6_takeNumber 0 99 μ16 = some (1, μ19) from b2, bI_s, if_neg n10, R19.2.1.2.1, if_pos rfl, if_pos rfl, b4, C19.2.2.1.1] at eX
          have eM3 : X12_readReach ν = if K19 = 7 then bV (X12_advance ν19) (fun ρ => bI (X12_count (nI 0) (nI P) ρ) fun x15 μ16 => X12_readReach_J52 (nI c0) (nI P) (nI G) x15 μ16) else X12_readReach_J52 (nI c0) (nI P) (nI G) 0 ν19 := by
            rw [eM2, b3, bI_s]
            show bI (X12_isHolds ν19) _ = _
            rw [is_Holds C19.2.2.2.2.1, bI_s, perh C19]
            by_cases c7 : K19 = 7
            · rw [if_pos c7, if_pos c7]
              cases X12_advance ν19 with
              | none => rfl
              | some ρ => rw [bV_s, bI_s, if_neg n10, bV_s]; rfl
            · rw [if_neg c7, if_neg c7, bI_s, if_pos rfl]
          have kν : kq qMr ν ν19 := kq_t g6 (kq_t (FM_x g12) (FM_x g19))
          have kμ : FXr μ μ19 := FXr_t f6 (FXr_t (FX_x f12) (FX_x f19))
          have fin : ∀ {μ1 ν1 : sM} {i1 m1 K1 s1 : Nat} {V1 : Int64} {H : Nat}, CS μ1 ν1 b n i1 m1 K1 V1 s1 → RV μ1 ν1 → FXr μ μ1 → kq qMr ν ν1 → i + 1 ≤ i1 → H ≤ P → (∀ j, rI ν1 61 0 j = rI ν6 61 0 j) → nmR (rL μ1 6 0 2) (rL ν1 64 0 (72 + c0)) → X5_readReach μ = X5_readReach_J152 (nI P) (nI G) (nI H) μ1 → X12_readReach ν = X12_readReach_J52 (nI c0) (nI P) (nI G) (nI H) ν1 → PRr μ ν b n i (X5_readReach μ) (bV (X12_readReach ν) endM) := by
            intro μ1 ν1 i1 m1 K1 s1 V1 H C1 R1 kx km hi hH h61 hnm eX' eM'
            have y1 : rI ν1 61 0 1392 = nI c0 := by rw [h61, k61]; exact y0
            have x1 : rI μ1 4 4 0 = nI c0 := R1.1.1.1.1.trans y1
            obtain ⟨ea, Ra⟩ := addR R1 x1 y1 k6 P9 G9 hH hnm
            have Ca : CS (adRx μ1 c0 P G H) (adRm ν1 c0 P G H) b n i1 m1 K1 V1 s1 := CS_c C1 (kq_wI rfl (kq_wI rfl (kq_wI rfl (kq_wI rfl (kq_wL rfl kq_r))))) (kq_wI rfl (kq_wI rfl (kq_wI rfl (kq_wI rfl kq_r))))
            have q4 : ∀ kk j, rk kk = true → qXr kk 4 j = false := fun kk j hk => qXr_R (nR_s hk)
            have q61 : ∀ j, 1392 ≤ j → qMr 61 0 j = false := fun j hj => by unfold qMr; simp [Nat.ble_eq_true_of_le hj]
            have fx : FXr μ (adRx μ1 c0 P G H) := FXr_t kx ⟨kq_wI (q4 _ _ rfl) (kq_wI (q4 _ _ rfl) (kq_wI (q4 _ _ rfl) (kq_wI (q4 _ _ rfl) (kq_wL (q4 _ _ rfl) kq_r)))), fun _ _ _ => rfl⟩
            have fm : kq qMr ν (adRm ν1 c0 P G H) := kq_t km (kq_wI (q61 _ (by omega)) (kq_wI (q61 _ (by omega)) (kq_wI (q61 _ (by omega)) (kq_wI (q61 _ (by omega)) kq_r))))
            have z := endR (μ := μ) (ν := ν) (i := i) Ca Ra hi fx fm
            have e1' : X5_readReach μ = bI (X6_takeEnd (adRx μ1 c0 P G H)) ckI := by
              rw [eX']
              unfold X5_readReach_J152
              rw [R1.2.1.2.2, if_pos rfl, ea, bV_s, Ra.2.1.2.1, if_pos rfl]
            have e2' : X12_readReach ν = some (adRm ν1 c0 P G H) := by
              rw [eM']
              unfold X12_readReach_J52
              rw [C1.2.2.2.2.2.2.1, if_pos (Int32.le_refl 0), show (1408 : Int32) = nI 1408 from rfl, show (1414 : Int32) = nI 1414 from rfl, show (1420 : Int32) = nI 1420 from rfl, nI_add, nI_add, nI_add, if_pos (inb_nI (by omega) (by omega)), if_pos (inb_nI (by omega) (by omega)), if_pos (inb_nI (by omega) (by omega)), ix_nI (by omega), ix_nI (by omega), ix_nI (by omega), rI_j (show 1392 ≠ 1420 + c0 by omega), rI_j (show 1392 ≠ 1414 + c0 by omega), rI_j (show 1392 ≠ 1408 + c0 by omega), y1, nI_1]
            rw [e1', e2', bV_s]
            exact z
          have nmX : ∀ {μ1 ν1 : sM}, FX μ6 μ1 → kq qMt ν6 ν1 → nmR (rL μ1 6 0 2) (rL ν1 64 0 (72 + c0)) := by
            intro μ1 ν1 a c
            rw [(a.1 6 0 2 rfl).2, (c 64 0 _ rfl).2]
            exact nm6
          have F19 : FX μ6 μ19 := FX_t f12 f19
          have G19 : kq qMt ν6 ν19 := kq_t g12 g19
          by_cases c7 : K19 = 7
          · obtain ⟨μ24, ν24, m24, K24, V24, s24, d1, d2, C24, f24, g24, -⟩ := adv2 C19 (by omega)
            have R24 := RV_t R19 f24 g24
            rw [c7, if_pos (show nI 7 = 7 from rfl), if_pos rfl, d1, bV_s, R24.2.1.2.1, if_pos rfl] at eX
            rw [if_pos c7, d2, bV_s] at eM3
            rcases takeN C24 (lo := 0) (hi := P) (by omega) (by omega) with ⟨H, μ27, ν27, m27, K27, V27, s27, -, hH, w1, w2, w3, C27, f27, g27⟩ | ⟨μ', ν', w1, w2, r, f27, g27⟩
            · have R27 := RV_t R24 f27 g27
              have F27 : FX μ6 μ27 := FX_t F19 (FX_t f24 f27)
              have G27 : kq qMt ν6 ν27 := kq_t G19 (kq_t g24 g27)
              refine fin (H := H) C27 R27 (FXr_t f6 (FX_x F27)) (kq_t g6 (FM_x G27)) (by omega) hH (fun j => (G27 61 0 j rfl).1) (nmX F27 G27) ?_ ?_
              · rw [eX, show X6_takeNumber 0 (nI P) μ24 = some (1, μ27) from w1, bI_s, if_neg n10, R27.2.1.2.1, if_pos rfl, w3]
              · rw [eM3, w2, bI_s]
            · obtain ⟨f, f1', f7', q⟩ := FS_b r
              refine fail ?_ (by rw [eM3, w2, bI_s, b_J52 q f1' f7']) r (FXr_t kμ (FXr_t (FX_x f24) (FX_x f27))) (kq_t kν (kq_t (FM_x g24) (FM_x g27)))
              rw [eX, show X6_takeNumber 0 (nI P) μ24 = some (0, μ') from w1, bI_s, if_pos rfl]
          · have n7' : ¬ nI K19 = 7 := fun z => c7 ((nI_eq (b := 7) (by have := C19.2.2.2.1; omega) (by omega)).mp z)
            rw [if_neg n7'] at eX
            rw [if_neg c7] at eM3
            exact fin (H := 0) C19 R19 kμ kν (by omega) (by omega) (fun j => (G19 61 0 j rfl).1) (nmX F19 G19) eX eM3
end C98p
