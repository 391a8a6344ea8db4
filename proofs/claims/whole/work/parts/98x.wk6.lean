/-! 98x: weeks -/
section C98x
variable {B : Int} {μ ν : sM} {b : Nat → Int32} {n i m K s S Q d : Nat} {V : Int64}
theorem nb {a : Bool} (h : a = true → False) : (!a) = true := by
  cases a
  · rfl
  · exact (h rfl).elim
theorem bn {a : Bool} (h : (!a) = true) (z : a = true) : False := by
  rw [z] at h
  cases h
theorem topP (n3 : n ≤ 300) : ∀ (k i c fu S Q : Nat) (μ ν : sM) (m K s : Nat) (V : Int64), n ≤ i + k → k + 1 < fu → 2 * c ≤ i → CS μ ν b n i m K V s → WV B μ ν S Q 0 →
  (∃ μ' ν', Wr c μ = some (0, μ') ∧ X12_weeks_L28 fu ν = X12_weeks_J50 ν' ∧ FS μ' ν' ∧ kq qXw μ μ' ∧ kq qMw ν ν') ∨
  (∃ μ' ν' S' Q', Wr c μ = some (1, μ') ∧ X12_weeks_L28 fu ν = X12_weeks_J50 ν' ∧ rI ν' 13 0 12 = 0 ∧ (rI μ' 7 0 2 = 0 ∧ rI μ' 7 0 3 = -1) ∧ WV B μ' ν' S' Q' 0 ∧ S ≤ S' ∧ Q ≤ Q' ∧ Seg μ' 4 (vv ν') 0 (S' - S) (3 - 0) S S' Q Q' ∧ FW Q S 0 μ ν μ' ν') := by
  intro k
  induction k with
  | zero =>
    intro i c fu S Q μ ν m K s V hk hf hc h w
    obtain ⟨fu, rfl⟩ : ∃ f, fu = f + 2 := ⟨fu - 2, by omega⟩
    have hin := h.2.1.2.2.1
    have h5 := h.2.2.1.1
    have h8 := h.2.2.2.1
    have h11 := h.2.2.2.2.2.2.1
    have hT := h.2.2.2.2.1
    rw [X12_weeks_L28]
    rw [h11, if_pos rfl]
    by_cases c32 : K = 32
    · rw [if_pos ((tr0 hT).mpr c32)]
      refine Or.inr ⟨μ, ν, S, Q, ?_, rfl, h11, h.2.1.2.2.2, w, Nat.le_refl S, Nat.le_refl Q, ?_, FW_r⟩
      · rw [Wr_u (by omega) w.2.2.1.1, h5, c32, if_pos (show nI 32 = 32 from rfl)]
        unfold X9_readFor_J113
        rw [w.2.1.2.1, if_pos (show nI 0 = 0 from rfl)]
      · rw [Nat.sub_self]
        exact ⟨rfl, rfl⟩
    · rw [if_neg (fun z => c32 ((tr0 hT).mp z))]
      rcases stepP (B := B) (b := b) (n := n) n3 6 0 i S Q μ ν m K s V (by omega) h w (Or.inl c32) (Or.inr rfl) with ⟨μ', ν', a1, a2, r, g1, g2⟩ | ⟨μ1, ν1, i1, m1, K1, V1, s1, S1, Q1, t1, a1, a2, a3, a4, C1, -⟩
      · obtain ⟨f, f1, f7, q⟩ := FS_b r
        refine Or.inl ⟨μ', ν', a1 c hc, ?_, r, g1, g2⟩
        rw [show X12_readStep 0 ν = some ν' from a2, bV_s, X12_weeks_L28]
        rw [q, if_neg (fs_pos f1 f7).2.1]
      · exfalso
        have := C1.2.1.2.2.1
        omega
  | succ k ih =>
    intro i c fu S Q μ ν m K s V hk hf hc h w
    obtain ⟨fu, rfl⟩ : ∃ f, fu = f + 2 := ⟨fu - 2, by omega⟩
    have hin := h.2.1.2.2.1
    have h5 := h.2.2.1.1
    have h8 := h.2.2.2.1
    have h11 := h.2.2.2.2.2.2.1
    have hT := h.2.2.2.2.1
    rw [X12_weeks_L28]
    rw [h11, if_pos rfl]
    by_cases c32 : K = 32
    · rw [if_pos ((tr0 hT).mpr c32)]
      refine Or.inr ⟨μ, ν, S, Q, ?_, rfl, h11, h.2.1.2.2.2, w, Nat.le_refl S, Nat.le_refl Q, ?_, FW_r⟩
      · rw [Wr_u (by omega) w.2.2.1.1, h5, c32, if_pos (show nI 32 = 32 from rfl)]
        unfold X9_readFor_J113
        rw [w.2.1.2.1, if_pos (show nI 0 = 0 from rfl)]
      · rw [Nat.sub_self]
        exact ⟨rfl, rfl⟩
    · rw [if_neg (fun z => c32 ((tr0 hT).mp z))]
      rcases stepP (B := B) (b := b) (n := n) n3 6 0 i S Q μ ν m K s V (by omega) h w (Or.inl c32) (Or.inr rfl) with ⟨μ', ν', a1, a2, r, g1, g2⟩ | ⟨μ1, ν1, i1, m1, K1, V1, s1, S1, Q1, t1, a1, a2, a3, a4, C1, W1, hS1, hQ1, El, F1⟩
      · obtain ⟨f, f1, f7, q⟩ := FS_b r
        refine Or.inl ⟨μ', ν', a1 c hc, ?_, r, g1, g2⟩
        rw [show X12_readStep 0 ν = some ν' from a2, bV_s, X12_weeks_L28]
        rw [q, if_neg (fs_pos f1 f7).2.1]
      · rw [show X12_readStep 0 ν = some ν1 from a4, bV_s]
        rcases ih i1 (c + t1) (fu + 1) S1 Q1 μ1 ν1 m1 K1 s1 V1 (by omega) (by omega) (by omega) C1 W1 with ⟨μ', ν', b1, b2, r, g1, g2⟩ | ⟨μ', ν', S', Q', b1, b2, b3, b4, W', hS', hQ', sg, F'⟩
        · exact Or.inl ⟨μ', ν', (a3 c hc).trans b1, b2, r, kq_t F1.1.1 g1, kq_t F1.1.2.2 g2⟩
        · have El' : Elt μ' ν' 0 S S1 Q Q1 := Elt_v El hS1 hQ1 W1.1.2.2.2 (fun k j x y z v => F'.2.1 k j x y v) F'.2.2.2
          exact Or.inr ⟨μ', ν', S', Q', (a3 c hc).trans b1, b2, b3, b4, W', by omega, by omega, Elt_cons El' sg hS1 hQ1 hS' hQ', FW_t F1 F' (by omega) (by omega) (by omega)⟩
abbrev wcF (ν : sM) (S v j : Nat) : Int32 := if 78 + v ≤ j ∧ j < 78 + 9 * S then rI ν 61 0 (1392 + j) else rI ν 61 0 j
theorem wcp (S30 : S ≤ 30) : ∀ (k v fu : Nat) (ν : sM), rI ν 13 0 26 = nI S → v + k = 9 * S → k < fu → X12_weeks_L80 fu (nI v) ν = some (nI S, sC ν 61 0 (wcF ν S v))
  | 0, v, fu + 1, ν, h, hv, _ => by
    unfold X12_weeks_L80
    rw [h, show (9 : Int32) * nI S = nI (9 * S) by rw [show (9 : Int32) = nI 9 from rfl, pk_mul], if_pos (nI_le (a := 9 * S) (b := v) (by omega) (by omega)), sC_id]
    intro j
    exact if_neg (by omega)
  | k + 1, v, fu + 1, ν, h, hv, hf => by
    rw [X12_weeks_L80]
    rw [h, show (9 : Int32) * nI S = nI (9 * S) by rw [show (9 : Int32) = nI 9 from rfl, pk_mul], if_neg (nI_ge (by omega) (by omega)), show (1470 : Int32) = nI 1470 from rfl, show (78 : Int32) = nI 78 from rfl, nI_add, nI_add, if_pos (inb_nI (by omega) (by omega)), if_pos (inb_nI (by omega) (by omega)), ix_nI (by omega), ix_nI (by omega), nI_1, wcp S30 k (v + 1) fu _ (by rw [rI_k (by decide)]; exact h) (by omega) (by omega), sC_wI]
    congr 3
    funext j
    show (if 78 + (v + 1) ≤ j ∧ j < 78 + 9 * S then rI (wI ν 61 0 (78 + v) (rI ν 61 0 (1470 + v))) 61 0 (1392 + j) else rI (wI ν 61 0 (78 + v) (rI ν 61 0 (1470 + v))) 61 0 j) = if 78 + v ≤ j ∧ j < 78 + 9 * S then rI ν 61 0 (1392 + j) else rI ν 61 0 j
    by_cases e : j = 78 + v
    · subst e
      rw [if_neg (by omega), if_pos (by omega), rI_s, show 1392 + (78 + v) = 1470 + v by omega]
    · rw [rI_j e]
      by_cases q : 78 + (v + 1) ≤ j ∧ j < 78 + 9 * S
      · rw [if_pos q, if_pos (by omega), rI_j (by omega)]
      · rw [if_neg q, if_neg (by omega)]
def qXv (k i _ : Nat) : Bool := !(k == 7 || (k == 36 || (k == 37 || (k == 38 || (k == 10 || (k == 49 || wk4 k i))))))
def qMv (k _ j : Nat) : Bool := !((k == 13 && (Nat.ble j 1 || ((Nat.ble 8 j && Nat.ble j 19) || j == 26))) || (k == 61 && Nat.ble 1470 j))
theorem qQ_xv : ∀ k i j, qQ k i j = true → qXv k i j = true := fun k i j h => nb (fun z => by
  unfold qQ qF qT qV qK qR qW at h
  simp only [Bool.or_eq_true, Bool.and_eq_true, beq_iff_eq, Nat.ble_eq, rk, wk4, wk] at h z
  omega)
theorem qQ_mv : ∀ k i j, qQ k i j = true → qMv k i j = true := fun k i j h => nb (fun z => by
  unfold qQ qF qT qV qK qR qW at h
  simp only [Bool.or_eq_true, Bool.and_eq_true, beq_iff_eq, Nat.ble_eq, rk] at h z
  omega)
theorem qXv_b : ∀ k i j, qXv k i j = true → qXb k i j = true := fun k i j h => nb (fun z => bn h (by
  simp only [Bool.or_eq_true, Bool.and_eq_true, beq_iff_eq, Nat.ble_eq, wk4, wk] at z ⊢
  omega))
theorem qXv_w : ∀ k i j, qXv k i j = true → qXw k i j = true := fun k i j h => nb (fun z => bn h (by
  simp only [Bool.or_eq_true, Bool.and_eq_true, beq_iff_eq, Nat.ble_eq, wk4, wk] at z ⊢
  omega))
theorem qMv_b : ∀ k i j, qMv k i j = true → qMb k i j = true := fun k i j h => nb (fun z => bn h (by
  simp only [Bool.or_eq_true, Bool.and_eq_true, beq_iff_eq, Nat.ble_eq] at z ⊢
  omega))
theorem qMv_w : ∀ k i j, qMv k i j = true → qMw k i j = true := fun k i j h => nb (fun z => bn h (by
  simp only [Bool.or_eq_true, Bool.and_eq_true, beq_iff_eq, Nat.ble_eq] at z ⊢
  omega))
abbrev wX (μ : sM) : sM := wI (wI (wI (wI (wI (wR (wR μ 10 0 1 (0 + 1)) 10 0 2 (0 + 1)) 10 0 4 0) 9 4 0 0) 9 4 1 0) 9 4 2 0) 9 4 0 1
theorem m_weeks (hB : 0 ≤ B ∧ B ≤ 900000000) (a : Int32) : BoI B (X11_weeks a) (X12_weeks a) := fun μ ν h => by
  have hP := h.2.2.2.1
  obtain ⟨F, hF, F9, hF'⟩ := rg_nI (b := 900) hP.1.2.1
  unfold X11_weeks X12_weeks X12_starts
  simp only [lt_i, le_i, t0, show (300 : Int32).toInt = 300 from rfl]
  have e8 : rI (m0 ν) 13 0 8 = rI ν 13 0 8 := by rw [rI_j (by decide), rI_j (by decide)]
  rw [hP.1.1, e8]
  by_cases c1 : 0 ≤ a.toInt ∧ a.toInt ≤ 300 ∧ a.toInt ≤ (rI ν 13 0 8).toInt
  · obtain ⟨n, rfl, hn, hn'⟩ := rg_nI (x := a) (b := 300) ⟨by omega, by omega⟩
    obtain ⟨μ1, ν1, m, K, V, s, e1, e2, C1, x1, y8, y0, k1, k2⟩ := start2 (n := n) h (by omega)
    rw [if_neg (show ¬ (nI n).toInt < 0 by omega), if_neg (show ¬ 300 < (nI n).toInt by omega), if_pos c1.2.2, e1, bV_s, if_neg (show ¬ (nI n).toInt < 0 by omega), if_neg (show ¬ (rI ν 13 0 8).toInt < (nI n).toInt by omega), if_pos (show (nI n).toInt ≤ 300 by omega), e2, bV_s, bI_s, if_neg n10]
    have eI : X9_readFor 0 μ1 = Wr 0 (wX μ1) := rfl
    have C2 : CS (wX μ1) (wI ν1 13 0 26 0) (rI ν 60 0) n 0 m K V s := CS_c C1 (kq_wI rfl (kq_wI rfl (kq_wI rfl (kq_wI rfl (kq_wI rfl (kq_wR (kq_wR kq_r))))))) (kq_wI rfl kq_r)
    have X1 : kq qXv μ (wX μ1) := kq_wI rfl (kq_wI rfl (kq_wI rfl (kq_wI rfl (kq_wI rfl (kq_wR (kq_wR (kq_m k1 qXv_b)))))))
    have M1 : kq qMv ν (wI ν1 13 0 26 0) := kq_wI rfl (kq_m k2 qMv_b)
    have i5 : ∀ k i j, qR 0 0 k i j = true → qQ k i j = true := fun k i j h => by unfold qQ; simp [h]
    have W2 : WV B (wX μ1) (wI ν1 13 0 26 0) 0 0 0 := by
      refine ⟨⟨rI_s, ?_, rI_s, by omega⟩, ⟨?_, ?_, by omega, by omega⟩, ⟨?_, ?_⟩, RelR_c h.2.2.2.2.1 (kq_m X1 (fun k i j z => qQ_xv k i j (i5 k i j z))) (kq_m M1 (fun k i j z => qQ_mv k i j (i5 k i j z))) (Int.le_refl B)⟩
      · rw [rI_j (by decide), rI_j (by decide), rI_s]; rfl
      · rw [rI_j (by decide), rI_s]; rfl
      · rw [rI_k (by decide), rI_k (by decide), rI_k (by decide), rI_k (by decide), rI_s]; rfl
      · simp [rR_wR, rR, wI, wR]
      · simp [rR_wR, rR, wI, wR]
    have x71 : rI (wX μ1) 7 0 1 = 0 := by
      rw [rI_k (by decide), rI_k (by decide), rI_k (by decide), rI_k (by decide), rI_k (by decide)]
      exact x1
    have y81 : rI (wI ν1 13 0 26 0) 13 0 8 = 0 := by
      rw [rI_j (by decide)]
      exact y8
    have y01 : rI (wI ν1 13 0 26 0) 13 0 0 = 0 := by
      rw [rI_j (by decide)]
      exact y0
    rw [eI]
    rcases topP (B := B) (b := rI ν 60 0) (n := n) (by omega) n 0 0 fuN 0 0 (wX μ1) (wI ν1 13 0 26 0) m K s V (by omega) (fuN_6 (by omega)) (by omega) C2 W2 with ⟨μ', ν', w1, w2, r, f', g'⟩ | ⟨μ', ν', S, Q, w1, w2, w3, ⟨w4, w5⟩, W', hS', hQ', sg, F'⟩
    · have X2 : kq qXv μ μ' := kq_t X1 (kq_m f' qXv_w)
      have M2 : kq qMv ν ν' := kq_t M1 (kq_m g' qMv_w)
      obtain ⟨f, s', f1, f7, q1, q2, q3, q4⟩ := r
      rw [w1, bI_s, if_pos rfl, w2]
      unfold X12_weeks_J50
      rw [wellB f1 f7 q3 q4, bI_s, if_pos rfl]
      refine ⟨-1, wI μ' 12 0 0 10, _, rfl, rfl, rl_Q h (kq_wI rfl (kq_m X2 qQ_xv)) (kq_wI rfl (kq_wI rfl (kq_wI rfl (kq_m M2 qQ_mv)))) (by omega) ?_ (RelP_0 ?_ ?_ ?_ ?_)⟩
      · rw [rI_s, rI_s]
      · rw [rI_k (by decide), (f' 7 0 1 rfl).1]
        exact x71
      · rw [rI_j (by decide), rI_j (by decide), rI_j (by decide), (g' 13 0 8 rfl).1]
        exact y81
      · rw [rI_k (by decide), q1, rI_j (by decide), rI_j (by decide), rI_s]
      · rw [rI_k (by decide), q2, rI_j (by decide), rI_s]
    · have X2 : kq qXv μ μ' := kq_t X1 (kq_m F'.1.1 qXv_w)
      have M2 : kq qMv ν ν' := kq_t M1 (kq_m F'.1.2.2 qMv_w)
      obtain ⟨⟨u1, u2, u3, u4⟩, ⟨u5, u6, u7, u8⟩, u9, u10⟩ := W'
      have c8 := cp8 (μ := μ') (a := 0) (w := 4) (n := Q) (Or.inr u1) u5 (by omega)
      rw [w1, bI_s, if_neg n10, c8, bV_s, w2]
      unfold X12_weeks_J50
      rw [wellG w3, bI_s, if_neg n10]
      obtain ⟨ρ, hρ⟩ : ∃ ρ, ρ = wI (wI (wI (wI ν' 13 0 10 0) 13 0 11 (-1)) 61 0 76 1) 61 0 77 (rI (wI (wI ν' 13 0 10 0) 13 0 11 (-1)) 13 0 26) := ⟨_, rfl⟩
      rw [← hρ]
      have r26 : rI ρ 13 0 26 = nI S := by rw [hρ, rI_k (by decide), rI_k (by decide), rI_j (by decide), rI_j (by decide)]; exact u3
      have r77 : rI ρ 61 0 77 = nI S := by rw [hρ, rI_s, rI_j (by decide), rI_j (by decide)]; exact u3
      have r76 : rI ρ 61 0 76 = 1 := by rw [hρ, rI_j (by decide), rI_s]
      have rj : ∀ j, j < 76 ∨ 77 < j → rI ρ 61 0 j = rI ν' 61 0 j := fun j hj => by rw [hρ, rI_j (by omega), rI_j (by omega), rI_k (by decide), rI_k (by decide)]
      have r13 : ∀ j, j ≠ 10 → j ≠ 11 → rI ρ 13 0 j = rI ν' 13 0 j := fun j h1 h2 => by rw [hρ, rI_k (by decide), rI_k (by decide), rI_j h2, rI_j h1]
      have rk' : ∀ {P : Nat → Nat → Nat → Bool} {ν0 : sM}, P 13 0 10 = false → P 13 0 11 = false → P 61 0 76 = false → P 61 0 77 = false → kq P ν0 ν' → kq P ν0 ρ := fun p1 p2 p3 p4 p5 => by
        rw [hρ]
        exact kq_wI p4 (kq_wI p3 (kq_wI p2 (kq_wI p1 p5)))
      have w80 := wcp (S := S) u4 (9 * S) 0 fuN ρ r26 (by omega) (fuN_6 (by omega))
      rw [nI_0] at w80
      rw [w80]
      obtain ⟨νf, hνf⟩ : ∃ νf, νf = sC ρ 61 0 (wcF ρ S 0) := ⟨_, rfl⟩
      rw [← hνf]
      have kM : ∀ {P : Nat → Nat → Nat → Bool}, (∀ k i j, P k i j = true → qQ k i j = true) → P 13 0 10 = false → P 13 0 11 = false → (∀ j, 76 ≤ j → j < 348 → P 61 0 j = false) → kq P ν νf := by
        intro P p1 p2 p3 p4
        rw [hνf]
        refine kq_t (rk' p2 p3 (p4 76 (by omega) (by omega)) (p4 77 (by omega) (by omega)) (kq_m M2 (fun k i j z => qQ_mv k i j (p1 k i j z)))) (kq_sC (fun j hj => ?_) kq_r)
        by_cases z : 78 + 0 ≤ j ∧ j < 78 + 9 * S
        · rw [p4 j (by omega) (by omega)] at hj
          cases hj
        · exact if_neg z
      have kX : ∀ {P : Nat → Nat → Nat → Bool}, (∀ k i j, P k i j = true → qQ k i j = true) → (∀ k i j, P k i j = true → nW 0 k i = true) → P 12 0 0 = false → kq P μ (wI (C8 μ' 0 4 Q) 12 0 0 0) := fun p1 p2 p3 => kq_wI p3 (kq_t (kq_m X2 (fun k i j z => qQ_xv k i j (p1 k i j z))) (kq_k cp8_k p2))
      have nw : ∀ {k i : Nat}, nC 0 k i = true → nW 0 k i = true := fun {k i} z => by
        unfold nC at z
        rw [Bool.and_eq_true] at z
        exact z.2
      have f61 : ∀ j, j < 78 → rI νf 61 0 j = rI ρ 61 0 j := fun j hj => by
        rw [hνf, sC_s]
        exact if_neg (by omega)
      have f13 : ∀ j, rI νf 13 0 j = rI ρ 13 0 j := fun j => by rw [hνf, sC_k (by decide)]
      have x7 : ∀ j, rI (wI (C8 μ' 0 4 Q) 12 0 0 0) 7 0 j = rI μ' 7 0 j := fun j => by
        rw [rI_k (by decide)]
        exact (cp8_k (μ := μ') (a := 0) (w := 4) (n := Q) 7 0 rfl j).1
      have x9 : ∀ j, j < 3 → rI (wI (C8 μ' 0 4 Q) 12 0 0 0) 9 0 j = rI μ' 9 4 j := fun j hj => by
        rw [rI_k (by decide)]
        exact cp8_f u5 j hj
      refine ⟨nI S, wI (C8 μ' 0 4 Q) 12 0 0 0, νf, ?_, rfl, ?_⟩
      · show some (rI (C8 μ' 0 4 Q) 9 0 1, _) = _
        rw [cp8_f u5 1 (by omega), u2]
      · obtain ⟨-, h1, h2, -, -, -, h6, h7⟩ := h
        have i1 : ∀ k i j, qF k i j = true → qQ k i j = true := fun k i j h => by unfold qQ; simp [h]
        have i2 : ∀ k i j, qT k i j = true → qQ k i j = true := fun k i j h => by unfold qQ; simp [h]
        have i3 : ∀ k i j, qV k i j = true → qQ k i j = true := fun k i j h => by unfold qQ; simp [h]
        have i4 : ∀ k i j, qK k i j = true → qQ k i j = true := fun k i j h => by unfold qQ; simp [h]
        have kc : ∀ k i j, qK k i j = true → nW 0 k i = true := fun k i j hq => nb (fun z => by
          unfold qK at hq
          simp only [Bool.or_eq_true, Bool.and_eq_true, beq_iff_eq, Nat.ble_eq, wk, rk] at hq z
          omega)
        have kr : ∀ k i j, qR 0 0 k i j = true → nW 0 k i = true := fun k i j hq => nb (fun z => by
          unfold qR at hq
          simp only [Bool.or_eq_true, Bool.and_eq_true, beq_iff_eq, Nat.ble_eq, wk, rk] at hq z
          omega)
        have k61 : ∀ q, 76 ≤ q → q < 348 → qK 61 0 q = false := by
          intro q hq hq'
          apply Bool.eq_false_iff.mpr
          intro z
          unfold qK rk at z
          simp only [Bool.or_eq_true, Bool.and_eq_true, beq_iff_eq, Nat.ble_eq] at z
          omega
        have r61 : ∀ q, 76 ≤ q → q < 348 → qR 0 0 61 0 q = false := by
          intro q hq hq'
          apply Bool.eq_false_iff.mpr
          intro z
          unfold qR rk at z
          simp only [Bool.or_eq_true, Bool.and_eq_true, beq_iff_eq, Nat.ble_eq] at z
          omega
        have RR : RelR B (wI (C8 μ' 0 4 Q) 12 0 0 0) 0 νf 0 := by
          refine RelR_c u10 (kq_wI rfl (kq_k cp8_k kr)) ?_ (Int.le_refl B)
          rw [hνf]
          refine kq_t (rk' rfl rfl (r61 76 (by omega) (by omega)) (r61 77 (by omega) (by omega)) kq_r) (kq_sC (fun j hj => ?_) kq_r)
          by_cases z : 78 + 0 ≤ j ∧ j < 78 + 9 * S
          · rw [r61 j (by omega) (by omega)] at hj
            cases hj
          · exact if_neg z
        have sgf : Seg (wI (C8 μ' 0 4 Q) 12 0 0 0) 0 νf 0 30 3 0 S 0 Q := by
          refine Seg_le S 30 3 0 S 0 Q u4 (Seg_v (R := Q) (E := S) (fun k j x y z => ?_) (fun s x hs hx => ?_) (fun j hj => ?_) S 3 0 S 0 Q (Nat.le_refl S) (Nat.le_refl Q) sg)
          · rw [rI_k (by omega)]
            exact cp8_r (by decide) k j x y z
          · rw [vv_s (by omega) hx]
            unfold stp
            rw [hνf, sC_s]
            show (if 78 + 0 ≤ 348 * 0 + 78 + 9 * s + x ∧ 348 * 0 + 78 + 9 * s + x < 78 + 9 * S then rI ρ 61 0 (1392 + (348 * 0 + 78 + 9 * s + x)) else rI ρ 61 0 (348 * 0 + 78 + 9 * s + x)) = _
            rw [if_pos (by omega), show 1392 + (348 * 0 + 78 + 9 * s + x) = 1470 + 9 * s + x by omega, rj _ (by omega)]
          · rw [f61 _ (by omega), vv_c (by omega), rj _ (by omega)]
        refine ⟨?_, RelF_c h1 (kX i1 (fun k i j z => nw (qF_c k i j z)) rfl) (kM i1 rfl rfl (fun _ _ _ => rfl)), RelT_c h2 (kX i2 (fun k i j z => nw (qT_c k i j z)) rfl) (kM i2 rfl rfl (fun _ _ _ => rfl)), RelP_0 ?_ ?_ ?_ ?_, RelR_c RR kq_r kq_r (by omega), ⟨?_, ?_, Or.inr ⟨?_, S, Q, ?_, u4, ?_, by omega, sgf⟩, ?_⟩, RelK_c h6 (kX i4 kc rfl) (kM i4 rfl rfl k61) (by omega), RelV_c h7 (kX i3 (fun k i j z => nw (qV_c k i j z)) rfl) (kM i3 rfl rfl (fun _ _ _ => rfl))⟩
        · rw [rI_s, f13, r13 0 (by decide) (by decide), (F'.1.2.2 13 0 0 rfl).1]
          exact y01.symm
        · rw [x7, (F'.1.1 7 0 1 rfl).1]
          exact x71
        · rw [f13, r13 8 (by decide) (by decide), (F'.1.2.2 13 0 8 rfl).1]
          exact y81
        · rw [x7, w4, f13, hρ, rI_k (by decide), rI_k (by decide), rI_j (by decide), rI_s]
        · rw [x7, w5, f13, hρ, rI_k (by decide), rI_k (by decide), rI_s]
        · rw [x9 0 (by omega), u1, f61 76 (by omega), r76]
        · rw [x9 1 (by omega), u2, f61 77 (by omega), r77]
        · rw [x9 0 (by omega)]; exact u1
        · rw [x9 1 (by omega)]; exact u2
        · rw [x9 2 (by omega)]; exact u5
        · rw [x9 2 (by omega), u5]
          unfold rg
          rw [nI_toInt (by omega)]
          omega
  · refine ⟨-1, _, _, ?_, ?_, re_b h 5⟩
    · by_cases c3 : a.toInt < 0
      · rw [if_pos c3]; rfl
      · rw [if_neg c3]
        by_cases c4 : 300 < a.toInt
        · rw [if_pos c4]; rfl
        · rw [if_neg c4, if_neg (by omega)]; rfl
    · by_cases c3 : a.toInt < 0
      · rw [if_pos c3]; rfl
      · rw [if_neg c3]
        by_cases c4 : (rI ν 13 0 8).toInt < a.toInt
        · rw [if_pos c4]; rfl
        · rw [if_neg c4, if_neg (by omega)]; rfl
end C98x
