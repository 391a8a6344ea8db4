/-! 98s: WEEKS that are read: beginnings, names, numbers -/
section C98s
variable {B : Int} {μ ν : sM} {b : Nat → Int32} {n i m K s S Q d : Nat} {V : Int64}
/-- WEEKS half read, alike: S STEPS, Q rows, d begun -/
def WV (B : Int) (μ ν : sM) (S Q d : Nat) : Prop := (rI μ 9 4 0 = 1 ∧ rI μ 9 4 1 = nI S ∧ rI ν 13 0 26 = nI S ∧ S ≤ 30) ∧ (rI μ 9 4 2 = nI Q ∧ rI μ 10 0 4 = nI d ∧ d ≤ 3 ∧ Q + d ≤ 2 * S) ∧ (rR μ 10 0 1 = 1 ∧ rR μ 10 0 2 = 1) ∧ RelR B μ 0 ν 0
theorem qR0_x : ∀ k i j, qR 0 0 k i j = true → qXt k i j = true := by
  intro k i j h
  unfold qR rk at h
  unfold qXt
  by_cases z : k = 7
  · exfalso
    simp only [Bool.or_eq_true, Bool.and_eq_true, beq_iff_eq, Nat.ble_eq] at h
    omega
  · simp [z]
theorem qR0_m : ∀ k i j, qR 0 0 k i j = true → qMt k i j = true := by
  intro k i j h
  unfold qR rk at h
  unfold qMt
  by_cases z : k = 13
  · exfalso
    simp only [Bool.or_eq_true, Bool.and_eq_true, beq_iff_eq, Nat.ble_eq] at h
    omega
  · simp [z]
theorem WV_t {μ' ν' : sM} (h : WV B μ ν S Q d) (a : FX μ μ') (c : kq qMt ν ν') : WV B μ' ν' S Q d := by
  obtain ⟨⟨h1, h2, h3, h4⟩, ⟨h5, h6, h7, h8⟩, ⟨h9, h10⟩, h11⟩ := h
  refine ⟨⟨?_, ?_, ?_, h4⟩, ⟨?_, ?_, h7, h8⟩, ⟨?_, ?_⟩, RelR_c h11 (kq_m a.1 qR0_x) (kq_m c qR0_m) (Int.le_refl B)⟩
  · rw [(a.1 9 4 0 rfl).1]; exact h1
  · rw [(a.1 9 4 1 rfl).1]; exact h2
  · rw [(c 13 0 26 rfl).1]; exact h3
  · rw [(a.1 9 4 2 rfl).1]; exact h5
  · rw [(a.1 10 0 4 rfl).1]; exact h6
  · rw [a.2]; exact h9
  · rw [a.2]; exact h10
/-! a row more -/
abbrev adX (μ : sM) (Q : Nat) (w : Int32) : sM := wI (wI (wI (wI (wI (wI (wI μ 43 4 Q w) 44 4 Q (-1)) 45 4 Q 0) 46 4 Q (-1)) 47 4 Q (-1)) 48 4 Q (-1)) 9 4 2 (nI (Q + 1))
theorem addRow_e (h : rI μ 9 4 2 = nI Q) (hq : Q ≤ 59) (w : Int32) : X8_addRow 4 w μ = some (nI Q, adX μ Q w) := by
  have e : imn (nI Q) 59 = nI Q := by
    show (if (59 : Int32) < nI Q then 59 else nI Q) = nI Q
    rw [if_neg (show ¬ (59 : Int32) < nI Q from nI_nlt (a := 59) hq (by omega))]
  have i60 : inb (nI Q) 60 = true := inb_nI (by omega) (by omega)
  have xq : ix (nI Q) = Q := ix_nI (by omega)
  unfold X8_addRow
  rw [h, e, xq, nI_1]
  simp only [i60, ↓reduceIte]
abbrev bg0 (μ : sM) (Q S : Nat) (w : Int32) : sM := wI (wI (adX μ Q w) 10 0 3 (nI Q)) 9 4 1 (nI (S + 1))
abbrev bg1 (μ : sM) (Q S d : Nat) (w : Int32) : sM := wI (wI (bg0 μ Q S w) 49 0 d (nI Q)) 10 0 4 (nI (d + 1))
/-- what reading WEEKS leaves alone -/
def wk4 (k i : Nat) : Bool := wk k && i == 4
def qXw (k i j : Nat) : Bool := !((k == 7 && (Nat.ble 2 j && Nat.ble j 7)) || (k == 10 || (k == 49 || wk4 k i)))
def qMw (k _ j : Nat) : Bool := !((k == 13 && ((Nat.ble 12 j && Nat.ble j 19) || j == 26)) || (k == 61 && Nat.ble 1470 j))
theorem qXw_t : ∀ k i j, qXw k i j = true → qXt k i j = true := by
  intro k i j h
  unfold qXw at h
  unfold qXt
  cases e : (k == 7 && (Nat.ble 2 j && Nat.ble j 7)) with
  | false => rfl
  | true => rw [e] at h; cases h
theorem qMw_t : ∀ k i j, qMw k i j = true → qMt k i j = true := by
  intro k i j h
  unfold qMw at h
  unfold qMt
  cases e : (k == 13 && (Nat.ble 12 j && Nat.ble j 19)) with
  | false => rfl
  | true =>
    exfalso
    rw [Bool.and_eq_true] at e
    rw [e.1, e.2] at h
    cases h
theorem qMw61 : ∀ j, 1470 ≤ j → qMw 61 0 j = false := by
  intro j h
  unfold qMw
  simp [Nat.ble_eq_true_of_le h]
theorem FM_w {ν1 : sM} (h : kq qMt ν ν1) : kq qMw ν ν1 := kq_m h qMw_t
theorem FX_w {μ1 : sM} (h : FX μ μ1) : kq qXw μ μ1 := kq_m h.1 qXw_t
/-- which STEP, and whether it is a block -/
def stk (K : Nat) (fl : Nat) : Prop := ((K = 20 ∨ K = 24) ∧ fl = 1) ∨ ((K = 2 ∨ K = 6 ∨ K = 14 ∨ K = 15 ∨ K = 17 ∨ K = 18 ∨ K = 19 ∨ K = 26) ∧ fl = 0)
theorem isStep_e (K : Nat) (hK : K ≤ 32) (μ : sM) : (∃ fl, stk K fl ∧ X9_isStep (nI K) μ = some (1, μ) ∧ 0 ≤ sWd K ∧ ((sWd K = 7 ∨ sWd K = 8) ↔ fl = 1)) ∨ (X9_isStep (nI K) μ = some (0, μ) ∧ ¬ 0 ≤ sWd K ∧ ¬ sWd K = 7 ∧ ¬ sWd K = 8) := by
  have ne : ∀ {k : Nat}, k < 33 → K ≠ k → ¬ nI K = nI k := fun hk c z => c ((nI_eq (by omega) (by omega)).mp z)
  unfold X9_isStep
  by_cases c2 : K = 2
  · refine Or.inl ⟨0, Or.inr ⟨by omega, rfl⟩, by rw [if_pos (show nI K = 2 by rw [c2]; rfl)], ?_, ?_⟩
    · rw [c2]; decide +kernel
    · rw [c2]; decide +kernel
  rw [if_neg (show ¬ nI K = 2 from ne (k := 2) (by omega) c2)]
  by_cases c6 : K = 6
  · refine Or.inl ⟨0, Or.inr ⟨by omega, rfl⟩, by rw [if_pos (show nI K = 6 by rw [c6]; rfl)], ?_, ?_⟩
    · rw [c6]; decide +kernel
    · rw [c6]; decide +kernel
  rw [if_neg (show ¬ nI K = 6 from ne (k := 6) (by omega) c6)]
  by_cases c14 : K = 14
  · refine Or.inl ⟨0, Or.inr ⟨by omega, rfl⟩, by rw [if_pos (show nI K = 14 by rw [c14]; rfl)], ?_, ?_⟩
    · rw [c14]; decide +kernel
    · rw [c14]; decide +kernel
  rw [if_neg (show ¬ nI K = 14 from ne (k := 14) (by omega) c14)]
  by_cases c15 : K = 15
  · refine Or.inl ⟨0, Or.inr ⟨by omega, rfl⟩, by rw [if_pos (show nI K = 15 by rw [c15]; rfl)], ?_, ?_⟩
    · rw [c15]; decide +kernel
    · rw [c15]; decide +kernel
  rw [if_neg (show ¬ nI K = 15 from ne (k := 15) (by omega) c15)]
  by_cases c17 : K = 17
  · refine Or.inl ⟨0, Or.inr ⟨by omega, rfl⟩, by rw [if_pos (show nI K = 17 by rw [c17]; rfl)], ?_, ?_⟩
    · rw [c17]; decide +kernel
    · rw [c17]; decide +kernel
  rw [if_neg (show ¬ nI K = 17 from ne (k := 17) (by omega) c17)]
  by_cases c18 : K = 18
  · refine Or.inl ⟨0, Or.inr ⟨by omega, rfl⟩, by rw [if_pos (show nI K = 18 by rw [c18]; rfl)], ?_, ?_⟩
    · rw [c18]; decide +kernel
    · rw [c18]; decide +kernel
  rw [if_neg (show ¬ nI K = 18 from ne (k := 18) (by omega) c18)]
  by_cases c19 : K = 19
  · refine Or.inl ⟨0, Or.inr ⟨by omega, rfl⟩, by rw [if_pos (show nI K = 19 by rw [c19]; rfl)], ?_, ?_⟩
    · rw [c19]; decide +kernel
    · rw [c19]; decide +kernel
  rw [if_neg (show ¬ nI K = 19 from ne (k := 19) (by omega) c19)]
  by_cases c20 : K = 20
  · refine Or.inl ⟨1, Or.inl ⟨by omega, rfl⟩, by rw [if_pos (show nI K = 20 by rw [c20]; rfl)], ?_, ?_⟩
    · rw [c20]; decide +kernel
    · rw [c20]; decide +kernel
  rw [if_neg (show ¬ nI K = 20 from ne (k := 20) (by omega) c20)]
  by_cases c24 : K = 24
  · refine Or.inl ⟨1, Or.inl ⟨by omega, rfl⟩, by rw [if_pos (show nI K = 24 by rw [c24]; rfl)], ?_, ?_⟩
    · rw [c24]; decide +kernel
    · rw [c24]; decide +kernel
  rw [if_neg (show ¬ nI K = 24 from ne (k := 24) (by omega) c24)]
  by_cases c26 : K = 26
  · refine Or.inl ⟨0, Or.inr ⟨by omega, rfl⟩, by rw [if_pos (show nI K = 26 by rw [c26]; rfl)], ?_, ?_⟩
    · rw [c26]; decide +kernel
    · rw [c26]; decide +kernel
  rw [if_neg (show ¬ nI K = 26 from ne (k := 26) (by omega) c26)]
  have e : sWd K = -1 := by
    unfold sWd
    rw [if_neg c14, if_neg c15, if_neg c17, if_neg c6, if_neg c2, if_neg c18, if_neg c19, if_neg c20, if_neg c24, if_neg c26]
  exact Or.inr ⟨rfl, by rw [e]; decide +kernel, by rw [e]; decide +kernel, by rw [e]; decide +kernel⟩
abbrev rdT (rec : Int32 → sM → Option sM) (d fl w : Nat) (ρ : sM) : Option sM := bV (X12_readRest (nI w) ρ) fun μ4 => bI (X12_isSign 59 μ4) fun x5 μ6 => bV (X12_must x5 μ6) fun μ8 => X12_readStep_L142 rec fuN (nI d) (nI fl) (nI w) μ8
theorem beginS {rec : Int32 → sM → Option sM} (h : CS μ ν b n i m K V s) (w : WV B μ ν S Q d) :
    (∃ μ' ν', X9_beginStep μ = some (0, μ') ∧ X12_readStep_ rec (nI d) ν = some ν' ∧ FS μ' ν' ∧ kq qXw μ μ' ∧ kq qMw ν ν') ∨
    (∃ fl μ1 μ2 ν2 m' K' V' s', stk K fl ∧ S < 30 ∧ (fl = 1 → d < 3) ∧ ((fl = 0 ∧ μ1 = bg0 μ Q S (nI K)) ∨ (fl = 1 ∧ μ1 = bg1 μ Q S d (nI K))) ∧ X9_beginStep μ = some (1, μ2) ∧ X12_readStep_ rec (nI d) ν = rdT rec d fl (1470 + 9 * S) (wI ν2 61 0 (1470 + 9 * S) (sWd K)) ∧ CS μ2 (wI ν2 61 0 (1470 + 9 * S) (sWd K)) b n (i + 1) m' K' V' s' ∧ FX μ1 μ2 ∧ kq qMt (wI ν 13 0 26 (nI (S + 1))) ν2) := by
  have h5 := h.2.2.1.1
  have h8 := h.2.2.2.1
  have h11 := h.2.2.2.2.2.2.1
  have hT := h.2.2.2.2.1
  obtain ⟨⟨w1, w2, w3, w4⟩, ⟨w5, w6, w7, w8⟩, ⟨w9, w10⟩, w11⟩ := w
  have eM : ∀ fl : Nat, ((sWd K = 7 ∨ sWd K = 8) ↔ fl = 1) → fl ≤ 1 → X12_readStep_ rec (nI d) ν = X12_readStep_J22 rec (nI d) (sWd K) (nI fl) ν := by
    intro fl hf f1
    unfold X12_readStep_
    rw [stepW hT, bI_s]
    by_cases c7 : sWd K = 7
    · rw [if_pos c7]
      unfold X12_readStep_J17
      rw [show fl = 1 from hf.mp (Or.inl c7)]
      rfl
    · rw [if_neg c7]
      by_cases c8 : sWd K = 8
      · rw [if_pos c8]
        unfold X12_readStep_J17
        rw [show fl = 1 from hf.mp (Or.inr c8)]
        rfl
      · rw [if_neg c8]
        have : fl = 0 := by
          have : ¬ fl = 1 := fun z => by
            rcases hf.mpr z with y | y
            · exact c7 y
            · exact c8 y
          omega
        rw [this]
        rfl
  unfold X9_beginStep
  rw [w9, if_pos rfl, h5]
  rcases isStep_e K h8 μ with ⟨fl, hs, e1, e2, e3⟩ | ⟨e1, e2, e3, e4⟩
  · have f1 : fl ≤ 1 := by
      rcases hs with ⟨-, z⟩ | ⟨-, z⟩ <;> omega
    have K31 : K < 31 := by
      rcases hs with ⟨z, -⟩ | ⟨z, -⟩ <;> omega
    rw [e1, bI_s, if_neg n10, w2, eM fl e3 f1]
    unfold X12_readStep_J22 X12_readStep_J31
    rw [if_pos e2, h11, if_pos rfl, w3]
    by_cases c30 : S = 30
    · obtain ⟨μ', ν', t1, t2, r, g1, g2⟩ := fail2 h (f := 6) (by omega) (by omega)
      obtain ⟨f, f1', f7', q⟩ := FS_b r
      refine Or.inl ⟨μ', ν', ?_, ?_, r, FX_w g1, FM_w g2⟩
      · rw [c30, if_neg (show ¬ nI 30 < 30 by decide +kernel), w9, if_pos rfl, show (6 : Int32) = nI 6 from rfl, t1, bI_s]
        rfl
      · rw [c30, if_pos (show nI 30 = 30 from rfl), show (6 : Int32) = nI 6 from rfl, t2, bV_s]
        unfold X12_readStep_J57 X12_readStep_J83
        rw [q, if_neg (fs_pos f1' f7').2.1, if_neg (fs_pos f1' f7').1]
    · have S30 : S < 30 := by omega
      have nS : ¬ nI S = 30 := fun z => c30 ((nI_eq (b := 30) (by omega) (by omega)).mp z)
      rw [if_pos (show nI S < 30 from nI_lt (b := 30) S30 (by omega)), if_neg nS]
      have eX0 : (if nI K = 20 then X9_beginStep_J57 (nI K) μ else if nI K = 24 then X9_beginStep_J57 (nI K) μ else X9_beginStep_J62 (nI K) 0 μ) = X9_beginStep_J62 (nI K) (nI fl) μ := by
        rcases hs with ⟨z, rfl⟩ | ⟨z, rfl⟩
        · rcases z with rfl | rfl
          · rw [if_pos (show nI 20 = 20 from rfl)]; rfl
          · rw [if_neg (by decide +kernel), if_pos (show nI 24 = 24 from rfl)]; rfl
        · rw [if_neg (show ¬ nI K = 20 from fun y => absurd ((nI_eq (b := 20) (by omega) (by omega)).mp y) (by omega)), if_neg (show ¬ nI K = 24 from fun y => absurd ((nI_eq (b := 24) (by omega) (by omega)).mp y) (by omega))]
          rfl
      rw [eX0]
      by_cases c7 : fl = 1 ∧ d = 3
      · obtain ⟨rfl, rfl⟩ := c7
        obtain ⟨μ', ν', t1, t2, r, g1, g2⟩ := fail2 h (f := 7) (by omega) (by omega)
        obtain ⟨f, f1', f7', q⟩ := FS_b r
        refine Or.inl ⟨μ', ν', ?_, ?_, r, FX_w g1, FM_w g2⟩
        · unfold X9_beginStep_J62
          rw [if_neg (show ¬ nI 1 = 0 by decide +kernel), w6, if_neg (by decide +kernel), w9, if_pos rfl, show (7 : Int32) = nI 7 from rfl, t1, bI_s]
          rfl
        · unfold X12_readStep_J57
          rw [h11, if_pos rfl, if_neg (show ¬ nI 1 = 0 by decide +kernel), if_pos (show nI 3 = 3 from rfl), show (7 : Int32) = nI 7 from rfl, t2, bV_s]
          unfold X12_readStep_J83
          rw [q, if_neg (fs_pos f1' f7').1]
      · have ar := addRow_e (μ := μ) w5 (by omega) (nI K)
        have eM2 : X12_readStep_J57 rec (nI d) (sWd K) (nI fl) ν = X12_readStep_J83 rec (nI d) (sWd K) (nI fl) ν := by
          unfold X12_readStep_J57
          rw [h11, if_pos rfl]
          by_cases z : fl = 0
          · rw [z, if_pos (show nI 0 = 0 from rfl)]
          · rw [if_neg (show ¬ nI fl = 0 from nI_ne0 (by omega) (by omega)), if_neg (show ¬ nI d = 3 from fun y => c7 ⟨by omega, (nI_eq (b := 3) (by omega) (by omega)).mp y⟩)]
        have fin : ∀ μ1 : sM, ((fl = 0 ∧ μ1 = bg0 μ Q S (nI K)) ∨ (fl = 1 ∧ μ1 = bg1 μ Q S d (nI K))) → X9_beginStep_J62 (nI K) (nI fl) μ = X9_beginStep_J137 μ1 → rR μ1 10 0 1 = 1 → CS μ1 (wI ν 13 0 26 (nI (S + 1))) b n i m K V s → (∃ fl μ1 μ2 ν2 m' K' V' s', stk K fl ∧ S < 30 ∧ (fl = 1 → d < 3) ∧ ((fl = 0 ∧ μ1 = bg0 μ Q S (nI K)) ∨ (fl = 1 ∧ μ1 = bg1 μ Q S d (nI K))) ∧ X9_beginStep_J62 (nI K) (nI fl) μ = some (1, μ2) ∧ X12_readStep_J57 rec (nI d) (sWd K) (nI fl) ν = rdT rec d fl (1470 + 9 * S) (wI ν2 61 0 (1470 + 9 * S) (sWd K)) ∧ CS μ2 (wI ν2 61 0 (1470 + 9 * S) (sWd K)) b n (i + 1) m' K' V' s' ∧ FX μ1 μ2 ∧ kq qMt (wI ν 13 0 26 (nI (S + 1))) ν2) := by
          intro μ1 hμ eJ r1 C1
          obtain ⟨μ2, ν2, m', K', V', s', a1, a2, C2, g1, g2, -⟩ := adv2 C1 K31
          refine ⟨fl, μ1, μ2, ν2, m', K', V', s', hs, S30, fun z => ?_, hμ, ?_, ?_, CS_c C2 kq_r (kq_wI rfl kq_r), g1, g2⟩
          · by_cases y : d = 3
            · exact absurd ⟨z, y⟩ c7
            · omega
          · rw [eJ]
            unfold X9_beginStep_J137
            rw [r1, if_pos rfl, a1, bV_s]
          · rw [eM2]
            unfold X12_readStep_J83
            rw [h11, if_pos (Int32.le_refl 0), w3, nI_1, a2, bV_s, show (1470 : Int32) + 9 * nI S = nI (1470 + 9 * S) by rw [show (1470 : Int32) = nI 1470 from rfl, show (9 : Int32) = nI 9 from rfl, pk_mul, nI_add], if_pos (inb_nI (by omega) (by omega)), ix_nI (by omega)]
        refine Or.inr ?_
        rcases (show fl = 0 ∨ fl = 1 by omega) with z | z
        · obtain ⟨fl', μ1, μ2, ν2, m', K', V', s', q1, q2, q3, q4, q5, q6, q7⟩ := fin (bg0 μ Q S (nI K)) (Or.inl ⟨z, rfl⟩) (by
            rw [z]
            unfold X9_beginStep_J62 X9_beginStep_J85
            rw [if_pos (show nI 0 = 0 from rfl), ar, bI_s, if_pos (show nI 0 = 0 from rfl), rI_j (by decide), rI_k (by decide), rI_k (by decide), rI_k (by decide), rI_k (by decide), rI_k (by decide), rI_k (by decide), w2, nI_1]) w9 (CS_c h (kq_wI rfl (kq_wI rfl (kq_wI rfl (kq_wI rfl (kq_wI rfl (kq_wI rfl (kq_wI rfl (kq_wI rfl (kq_wI rfl kq_r))))))))) (kq_wI rfl kq_r))
          have ff : fl' = fl := by
            rcases q1 with ⟨u, v⟩ | ⟨u, v⟩ <;> rcases hs with ⟨u', v'⟩ | ⟨u', v'⟩ <;> omega
          subst ff
          exact ⟨fl', μ1, μ2, ν2, m', K', V', s', q1, q2, q3, q4, q5, q6, q7⟩
        · have d3 : d < 3 := by
            by_cases y : d = 3
            · exact absurd ⟨z, y⟩ c7
            · omega
          obtain ⟨fl', μ1, μ2, ν2, m', K', V', s', q1, q2, q3, q4, q5, q6, q7⟩ := fin (bg1 μ Q S d (nI K)) (Or.inr ⟨z, rfl⟩) (by
            rw [z]
            unfold X9_beginStep_J62 X9_beginStep_J85
            rw [if_neg (show ¬ nI 1 = 0 by decide +kernel), w6, if_pos (show nI d < 3 from nI_lt (b := 3) d3 (by omega)), ar, bI_s, if_neg (show ¬ nI 1 = 0 by decide +kernel)]
            have z4 : rI (adX μ Q (nI K)) 10 0 4 = nI d := by
              rw [rI_k (by decide), rI_k (by decide), rI_k (by decide), rI_k (by decide), rI_k (by decide), rI_k (by decide), rI_k (by decide)]
              exact w6
            have z1 : rI (adX μ Q (nI K)) 9 4 1 = nI S := by
              rw [rI_j (by decide), rI_k (by decide), rI_k (by decide), rI_k (by decide), rI_k (by decide), rI_k (by decide), rI_k (by decide)]
              exact w2
            rw [z4, z1, if_pos (inb_nI d3 (by omega)), ix_nI (by omega), nI_1, nI_1]) w9 (CS_c h (kq_wI rfl (kq_wI rfl (kq_wI rfl (kq_wI rfl (kq_wI rfl (kq_wI rfl (kq_wI rfl (kq_wI rfl (kq_wI rfl (kq_wI rfl (kq_wI rfl kq_r))))))))))) (kq_wI rfl kq_r))
          have ff : fl' = fl := by
            rcases q1 with ⟨u, v⟩ | ⟨u, v⟩ <;> rcases hs with ⟨u', v'⟩ | ⟨u', v'⟩ <;> omega
          subst ff
          exact ⟨fl', μ1, μ2, ν2, m', K', V', s', q1, q2, q3, q4, q5, q6, q7⟩
  · obtain ⟨μ', ν', t1, t2, r, g1, g2⟩ := amiss2 h
    obtain ⟨f, f1', f7', q⟩ := FS_b r
    refine Or.inl ⟨μ', ν', ?_, ?_, r, FX_w g1, FM_w g2⟩
    · rw [e1, bI_s, if_pos rfl, w9, if_pos rfl, t1, bI_s]
      rfl
    · rw [eM 0 ⟨fun z => by rcases z with z | z; exact absurd z e3; exact absurd z e4, fun z => by omega⟩ (by omega)]
      unfold X12_readStep_J22
      rw [if_neg e2, t2, bV_s]
      unfold X12_readStep_J31 X12_readStep_J57 X12_readStep_J83
      rw [q, if_neg (fs_pos f1' f7').2.1, if_neg (fs_pos f1' f7').2.1, if_neg (fs_pos f1' f7').1]
/-- a NAME of the river that is now -/
theorem nm28 (h : CS μ ν b n i m K V s) (hN : RelN μ 0 ν 0) {c : Nat} (hc : rI ν 61 0 0 = nI c) (c6 : c ≤ 6) (r1 : rR μ 10 0 1 = 1) (h3 : rI μ 10 0 3 = nI Q) (hq : Q < 60) :
    (∃ μ' ν', X9_takeName_28 0 (nI c) μ = some (0, μ') ∧ X12_readTold (nI 0) (nI 0) ν = some (0, ν') ∧ FS μ' ν' ∧ FX μ μ' ∧ kq qMt ν ν') ∨
    (∃ j μ' ν' m' K' V' s', j < c ∧ X9_takeName_28 0 (nI c) μ = some (1, μ') ∧ X12_readTold (nI 0) (nI 0) ν = some (nI j, ν') ∧ CS μ' ν' b n (i + 1) m' K' V' s' ∧ FX (wI μ 44 4 Q (nI j)) μ' ∧ kq qMt ν ν') := by
  have h5 := h.2.2.1.1
  have h8 := h.2.2.2.1
  unfold X9_takeName_28
  rw [r1, if_pos rfl, h5]
  by_cases c27 : K = 27
  · have tc := nI_toInt (n := c) (by omega)
    obtain ⟨x, p1, p2, p3⟩ := place28 (μ := μ) (ν := ν) (r := 0) (bk := 0) (so := 0) c6 (by omega) (by omega) (fun j hj => hN.1 j (show (j : Int) < (rI ν 61 0 0).toInt by rw [hc]; omega)) hc (tr_nm h.2.2.2.2.1 c27)
    rw [if_pos (show nI K = 27 by rw [c27]; rfl), if_pos rfl, h.2.2.1.2.1, p1, bI_s, r1, h3]
    rcases m1_e p3 c6 with ⟨q1, -, -⟩ | ⟨j, q1, q2, q3, -, -⟩
    · obtain ⟨μ', ν', t1, t2, r, g1, g2⟩ := fail2 h (f := 3) (by omega) (by omega)
      obtain ⟨f, f1', f7', q⟩ := FS_b r
      refine Or.inl ⟨μ', ν', ?_, told_no h c27 (by rw [p2, q1]) t2 q f1' f7', r, g1, g2⟩
      rw [if_pos q1, if_pos rfl, show (3 : Int32) = nI 3 from rfl, t1, bI_s]
      rfl
    · have C1 : CS (wI μ 44 4 Q (nI j)) ν b n i m K V s := CS_c h (kq_wI rfl kq_r) kq_r
      obtain ⟨μ', ν', m', K', V', s', t1, t2, C2, g1, g2, -⟩ := adv2 C1 (by omega)
      refine Or.inr ⟨j, μ', ν', m', K', V', s', q1, ?_, told_ok h c27 (by rw [p2, q2]) (by omega) t2, C2, g1, g2⟩
      rw [if_neg q3, if_pos (inb_nI hq (by omega)), if_pos rfl, ix_nI (by omega), q2, t1, bV_s]
  · obtain ⟨μ', ν', t1, t2, r, g1, g2⟩ := amiss2 h
    obtain ⟨f, f1', f7', q⟩ := FS_b r
    refine Or.inl ⟨μ', ν', ?_, told_am h c27 t2 q f1' f7', r, g1, g2⟩
    rw [if_neg (show ¬ nI K = 27 from fun z => c27 ((nI_eq (b := 27) (by omega) (by omega)).mp z)), if_pos rfl, t1, bI_s]
    rfl
/-- a NAME of the river that is now -/
theorem nm24 (h : CS μ ν b n i m K V s) (hN : RelN μ 0 ν 0) {c : Nat} (hc : rI ν 61 0 1 = nI c) (c6 : c ≤ 6) (r1 : rR μ 10 0 1 = 1) (h3 : rI μ 10 0 3 = nI Q) (hq : Q < 60) :
    (∃ μ' ν', X9_takeName_24 0 (nI c) μ = some (0, μ') ∧ X12_readTold (nI 0) (nI 1) ν = some (0, ν') ∧ FS μ' ν' ∧ FX μ μ' ∧ kq qMt ν ν') ∨
    (∃ j μ' ν' m' K' V' s', j < c ∧ X9_takeName_24 0 (nI c) μ = some (1, μ') ∧ X12_readTold (nI 0) (nI 1) ν = some (nI j, ν') ∧ CS μ' ν' b n (i + 1) m' K' V' s' ∧ FX (wI μ 44 4 Q (nI j)) μ' ∧ kq qMt ν ν') := by
  have h5 := h.2.2.1.1
  have h8 := h.2.2.2.1
  unfold X9_takeName_24
  rw [r1, if_pos rfl, h5]
  by_cases c27 : K = 27
  · have tc := nI_toInt (n := c) (by omega)
    obtain ⟨x, p1, p2, p3⟩ := place24 (μ := μ) (ν := ν) (r := 0) (bk := 0) (so := 1) c6 (by omega) (by omega) (fun j hj => hN.2.1 j (show (j : Int) < (rI ν 61 0 1).toInt by rw [hc]; omega)) hc (tr_nm h.2.2.2.2.1 c27)
    rw [if_pos (show nI K = 27 by rw [c27]; rfl), if_pos rfl, h.2.2.1.2.1, p1, bI_s, r1, h3]
    rcases m1_e p3 c6 with ⟨q1, -, -⟩ | ⟨j, q1, q2, q3, -, -⟩
    · obtain ⟨μ', ν', t1, t2, r, g1, g2⟩ := fail2 h (f := 3) (by omega) (by omega)
      obtain ⟨f, f1', f7', q⟩ := FS_b r
      refine Or.inl ⟨μ', ν', ?_, told_no h c27 (by rw [p2, q1]) t2 q f1' f7', r, g1, g2⟩
      rw [if_pos q1, if_pos rfl, show (3 : Int32) = nI 3 from rfl, t1, bI_s]
      rfl
    · have C1 : CS (wI μ 44 4 Q (nI j)) ν b n i m K V s := CS_c h (kq_wI rfl kq_r) kq_r
      obtain ⟨μ', ν', m', K', V', s', t1, t2, C2, g1, g2, -⟩ := adv2 C1 (by omega)
      refine Or.inr ⟨j, μ', ν', m', K', V', s', q1, ?_, told_ok h c27 (by rw [p2, q2]) (by omega) t2, C2, g1, g2⟩
      rw [if_neg q3, if_pos (inb_nI hq (by omega)), if_pos rfl, ix_nI (by omega), q2, t1, bV_s]
  · obtain ⟨μ', ν', t1, t2, r, g1, g2⟩ := amiss2 h
    obtain ⟨f, f1', f7', q⟩ := FS_b r
    refine Or.inl ⟨μ', ν', ?_, told_am h c27 t2 q f1' f7', r, g1, g2⟩
    rw [if_neg (show ¬ nI K = 27 from fun z => c27 ((nI_eq (b := 27) (by omega) (by omega)).mp z)), if_pos rfl, t1, bI_s]
    rfl
/-- a NAME of the river that is now -/
theorem nm50 (h : CS μ ν b n i m K V s) (hN : RelN μ 0 ν 0) {c : Nat} (hc : rI ν 61 0 2 = nI c) (c6 : c ≤ 6) (r1 : rR μ 10 0 1 = 1) (h3 : rI μ 10 0 3 = nI Q) (hq : Q < 60) :
    (∃ μ' ν', X9_takeName_50 0 (nI c) μ = some (0, μ') ∧ X12_readTold (nI 0) (nI 2) ν = some (0, ν') ∧ FS μ' ν' ∧ FX μ μ' ∧ kq qMt ν ν') ∨
    (∃ j μ' ν' m' K' V' s', j < c ∧ X9_takeName_50 0 (nI c) μ = some (1, μ') ∧ X12_readTold (nI 0) (nI 2) ν = some (nI j, ν') ∧ CS μ' ν' b n (i + 1) m' K' V' s' ∧ FX (wI μ 44 4 Q (nI j)) μ' ∧ kq qMt ν ν') := by
  have h5 := h.2.2.1.1
  have h8 := h.2.2.2.1
  unfold X9_takeName_50
  rw [r1, if_pos rfl, h5]
  by_cases c27 : K = 27
  · have tc := nI_toInt (n := c) (by omega)
    obtain ⟨x, p1, p2, p3⟩ := place50 (μ := μ) (ν := ν) (r := 0) (bk := 0) (so := 2) c6 (by omega) (by omega) (fun j hj => hN.2.2 j (show (j : Int) < (rI ν 61 0 2).toInt by rw [hc]; omega)) hc (tr_nm h.2.2.2.2.1 c27)
    rw [if_pos (show nI K = 27 by rw [c27]; rfl), if_pos rfl, h.2.2.1.2.1, p1, bI_s, r1, h3]
    rcases m1_e p3 c6 with ⟨q1, -, -⟩ | ⟨j, q1, q2, q3, -, -⟩
    · obtain ⟨μ', ν', t1, t2, r, g1, g2⟩ := fail2 h (f := 3) (by omega) (by omega)
      obtain ⟨f, f1', f7', q⟩ := FS_b r
      refine Or.inl ⟨μ', ν', ?_, told_no h c27 (by rw [p2, q1]) t2 q f1' f7', r, g1, g2⟩
      rw [if_pos q1, if_pos rfl, show (3 : Int32) = nI 3 from rfl, t1, bI_s]
      rfl
    · have C1 : CS (wI μ 44 4 Q (nI j)) ν b n i m K V s := CS_c h (kq_wI rfl kq_r) kq_r
      obtain ⟨μ', ν', m', K', V', s', t1, t2, C2, g1, g2, -⟩ := adv2 C1 (by omega)
      refine Or.inr ⟨j, μ', ν', m', K', V', s', q1, ?_, told_ok h c27 (by rw [p2, q2]) (by omega) t2, C2, g1, g2⟩
      rw [if_neg q3, if_pos (inb_nI hq (by omega)), if_pos rfl, ix_nI (by omega), q2, t1, bV_s]
  · obtain ⟨μ', ν', t1, t2, r, g1, g2⟩ := amiss2 h
    obtain ⟨f, f1', f7', q⟩ := FS_b r
    refine Or.inl ⟨μ', ν', ?_, told_am h c27 t2 q f1' f7', r, g1, g2⟩
    rw [if_neg (show ¬ nI K = 27 from fun z => c27 ((nI_eq (b := 27) (by omega) (by omega)).mp z)), if_pos rfl, t1, bI_s]
    rfl
theorem num9 (h : CS μ ν b n i m K V s) {lo hi : Nat} (hl : lo ≤ 9999) (hh : hi ≤ 9999) (r1 : rR μ 10 0 1 = 1) (h3 : rI μ 10 0 3 = nI Q) (hq : Q < 60) :
    (∃ μ' ν', X9_takeNumber (nI lo) (nI hi) μ = some (0, μ') ∧ X12_count (nI lo) (nI hi) ν = some (0, ν') ∧ FS μ' ν' ∧ FX μ μ' ∧ kq qMt ν ν') ∨
    (∃ v μ3 ν' m' K' V' s', lo ≤ v ∧ v ≤ hi ∧ X9_takeNumber (nI lo) (nI hi) μ = some (1, wI μ3 45 4 Q (nI v)) ∧ X12_count (nI lo) (nI hi) ν = some (nI v, ν') ∧ CS (wI μ3 45 4 Q (nI v)) ν' b n (i + 1) m' K' V' s' ∧ FX μ μ3 ∧ kq qMt ν ν') := by
  unfold X9_takeNumber
  rw [r1, if_pos rfl]
  rcases takeN h hl hh with ⟨v, μ3, ν', m', K', V', s', v1, v2, e1, e2, e3, C', g1, g2⟩ | ⟨μ', ν', e1, e2, r, g1, g2⟩
  · refine Or.inr ⟨v, μ3, ν', m', K', V', s', v1, v2, ?_, e2, CS_c C' (kq_wI rfl kq_r) kq_r, g1, g2⟩
    rw [e1, bI_s, if_neg n10, g1.2, r1, if_pos rfl, (g1.1 10 0 3 rfl).1, h3, if_pos (inb_nI hq (by omega)), ix_nI (by omega), e3]
  · exact Or.inl ⟨μ', ν', by rw [e1, bI_s, if_pos rfl], e2, r, g1, g2⟩
end C98s
