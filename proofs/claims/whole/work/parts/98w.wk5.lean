/-! 98w: WEEKS that are read: blocks, and all of it -/
section C98w
variable {B : Int} {μ ν : sM} {b : Nat → Int32} {n i m K s S Q d : Nat} {V : Int64}
theorem Seg_v2 {μ' ν' : sM} {w w' bb bb' L R A E : Nat} (hx : ∀ k j, 43 ≤ k → k ≤ 48 → L ≤ j → j < R → rI μ' k w' j = rI μ k w j) (hs : ∀ s x, A ≤ s → s < E → x < 9 → stp ν' bb' s x = stp ν bb s x) (hc : ∀ j, j < 3 → rI ν' 61 0 (348 * bb' + j) = rI ν 61 0 (348 * bb + j)) : ∀ (n d s e p q : Nat), e ≤ E → q ≤ R → L ≤ p → A ≤ s → Seg μ w ν bb n d s e p q → Seg μ' w' ν' bb' n d s e p q
  | 0, d, s, e, p, q, _, _, _, _, h => h
  | n + 1, d, s, e, p, q, he, hq, hL, hA, h => by
    rcases h with h | ⟨h1, h2, h3, h4⟩
    · exact Or.inl h
    · have e0 := hc 0 (by omega)
      rw [Nat.add_zero, Nat.add_zero] at e0
      have h3' : RowR μ' w' ν' bb' s p := by
        unfold RowR
        rw [hs s 0 hA (by omega) (by omega), hs s 1 hA (by omega) (by omega), hs s 2 hA (by omega) (by omega), hs s 6 hA (by omega) (by omega), hs s 7 hA (by omega) (by omega), hx 43 p (by omega) (by omega) hL (by omega), hx 44 p (by omega) (by omega) hL (by omega), hx 45 p (by omega) (by omega) hL (by omega), hx 46 p (by omega) (by omega) hL (by omega), hx 47 p (by omega) (by omega) hL (by omega), e0, hc 1 (by omega), hc 2 (by omega)]
        exact h3
      refine Or.inr ⟨h1, h2, h3', ?_⟩
      rw [hs s 0 hA (by omega) (by omega), hs s 8 hA (by omega) (by omega)]
      rcases h4 with ⟨g1, g2, g3, g4⟩ | ⟨g1, e1, p1, g2, g3, g4, g5, g6, g7, g8, g9, g10, g11⟩
      · exact Or.inl ⟨g1, g2, g3, Seg_v2 hx hs hc n _ _ _ _ _ he hq (by omega) (by omega) g4⟩
      · refine Or.inr ⟨g1, e1, p1, g2, g3, g4, g5, g6, ⟨g7.1, Seg_v2 hx hs hc n _ _ _ _ _ (by omega) (by omega) (by omega) (by omega) g7.2⟩, ?_, ?_, ?_, Seg_v2 hx hs hc n _ _ _ _ _ he hq (by omega) (by omega) g11⟩
        · rw [hx 43 p1 (by omega) (by omega) (by omega) (by omega)]; exact g8
        · rw [hx 48 p1 (by omega) (by omega) (by omega) (by omega)]; exact g9
        · rw [hx 48 p (by omega) (by omega) hL (by omega)]; exact g10
/-- one STEP with all that is in it -/
def Elt (μ ν : sM) (d S S' Q Q' : Nat) : Prop := RowR μ 4 (vv ν) 0 S Q ∧ ((stp (vv ν) 0 S 0 ≠ 7 ∧ stp (vv ν) 0 S 0 ≠ 8 ∧ stp (vv ν) 0 S 8 = nI (S + 1) ∧ S' = S + 1 ∧ Q' = Q + 1) ∨ ((stp (vv ν) 0 S 0 = 7 ∨ stp (vv ν) 0 S 0 = 8) ∧ ∃ p1, stp (vv ν) 0 S 8 = nI S' ∧ S < S' ∧ Q < p1 ∧ Q' = p1 + 1 ∧ (d < 3 ∧ Seg μ 4 (vv ν) 0 (S' - (S + 1)) (3 - (d + 1)) (S + 1) S' (Q + 1) p1) ∧ rI μ 43 4 p1 = 25 ∧ rI μ 48 4 p1 = nI Q ∧ rI μ 48 4 Q = nI p1))
theorem Elt_cons {S1 Q1 e q : Nat} (h : Elt μ ν d S S1 Q Q1) (h' : Seg μ 4 (vv ν) 0 (e - S1) (3 - d) S1 e Q1 q) (hS : S < S1) (hQ : Q < Q1) (he : S1 ≤ e) (hq : Q1 ≤ q) : Seg μ 4 (vv ν) 0 (e - S) (3 - d) S e Q q := by
  obtain ⟨k, hk⟩ : ∃ k, e - S = k + 1 := ⟨e - S - 1, by omega⟩
  rw [hk]
  obtain ⟨h1, h2⟩ := h
  refine Or.inr ⟨by omega, by omega, h1, ?_⟩
  rcases h2 with ⟨a, c, g, rfl, rfl⟩ | ⟨a, p1, g1, g2, g3, rfl, ⟨g4, g5⟩, g6, g7, g8⟩
  · exact Or.inl ⟨a, c, g, Seg_le _ _ _ _ _ _ _ (by omega) h'⟩
  · exact Or.inr ⟨a, S1, p1, g1, g2, he, g3, by omega, ⟨by omega, by rw [show 3 - d - 1 = 3 - (d + 1) by omega]; exact Seg_le _ _ _ _ _ _ _ (by omega) g5⟩, g6, g7, g8, Seg_le _ _ _ _ _ _ _ (by omega) h'⟩
theorem Elt_v {μ' ν' : sM} {S1 Q1 : Nat} (h : Elt μ ν d S S1 Q Q1) (hS : S < S1) (hQ : Q < Q1) (S30 : S1 ≤ 30) (hx : ∀ k j, 43 ≤ k → k ≤ 48 → Q ≤ j → j < Q1 → rI μ' k 4 j = rI μ k 4 j) (hm : ∀ j, j < 1470 + 9 * S1 → rI ν' 61 0 j = rI ν 61 0 j) : Elt μ' ν' d S S1 Q Q1 := by
  have hs : ∀ s x, s < S1 → x < 9 → stp (vv ν') 0 s x = stp (vv ν) 0 s x := fun s x h1 h2 => by rw [vv_s (by omega) h2, vv_s (by omega) h2, hm _ (by omega)]
  have hc : ∀ j, j < 3 → rI (vv ν') 61 0 (348 * 0 + j) = rI (vv ν) 61 0 (348 * 0 + j) := fun j hj => by rw [vv_c (by omega), vv_c (by omega), hm _ (by omega)]
  obtain ⟨h1, h2⟩ := h
  have e0 := hc 0 (by omega)
  rw [Nat.add_zero] at e0
  have h1' : RowR μ' 4 (vv ν') 0 S Q := by
    unfold RowR
    rw [hs S 0 hS (by omega), hs S 1 hS (by omega), hs S 2 hS (by omega), hs S 6 hS (by omega), hs S 7 hS (by omega), hx 43 Q (by omega) (by omega) (by omega) hQ, hx 44 Q (by omega) (by omega) (by omega) hQ, hx 45 Q (by omega) (by omega) (by omega) hQ, hx 46 Q (by omega) (by omega) (by omega) hQ, hx 47 Q (by omega) (by omega) (by omega) hQ, e0, hc 1 (by omega), hc 2 (by omega)]
    exact h1
  refine ⟨h1', ?_⟩
  rw [hs S 0 hS (by omega), hs S 8 hS (by omega)]
  rcases h2 with h2 | ⟨a, p1, g1, g2, g3, rfl, ⟨g4, g5⟩, g6, g7, g8⟩
  · exact Or.inl h2
  · refine Or.inr ⟨a, p1, g1, g2, g3, rfl, ⟨g4, Seg_v2 (L := Q) (R := p1 + 1) (A := 0) (E := S1) hx (fun s x _ => hs s x) hc _ _ _ _ _ _ (Nat.le_refl _) (by omega) (by omega) (by omega) g5⟩, ?_, ?_, ?_⟩
    · rw [hx 43 p1 (by omega) (by omega) (by omega) (by omega)]; exact g6
    · rw [hx 48 p1 (by omega) (by omega) (by omega) (by omega)]; exact g7
    · rw [hx 48 Q (by omega) (by omega) (by omega) (by omega)]; exact g8
def BadW (μ ν : sM) (i : Nat) (M : Option sM) : Prop := ∃ μ' ν', (∀ c, 2 * c ≤ i → Wr c μ = some (0, μ')) ∧ M = some ν' ∧ FS μ' ν' ∧ kq qXw μ μ' ∧ kq qMw ν ν'
def SRs (B : Int) (μ ν : sM) (b : Nat → Int32) (n i S Q d : Nat) (M : Option sM) : Prop := BadW μ ν i M ∨
  (∃ μ' ν' i' m' K' V' s' S' Q' t, i + 2 * t ≤ i' ∧ 1 ≤ t ∧ (∀ c, 2 * c ≤ i → Wr c μ = Wr (c + t) μ') ∧ M = some ν' ∧ CS μ' ν' b n i' m' K' V' s' ∧ WV B μ' ν' S' Q' d ∧ S < S' ∧ Q < Q' ∧ Elt μ' ν' d S S' Q Q' ∧ FW Q S d μ ν μ' ν')
/-- a block's body, from (S, Q) on, to its end; the block is STEP S0, row Q0 -/
def BRs (B : Int) (μ ν : sM) (b : Nat → Int32) (n i S Q d S0 Q0 : Nat) (M : Option sM) : Prop := BadW μ ν i M ∨
  (∃ μ' ν' i' m' K' V' s' S' p1 t, i + 2 * t ≤ i' ∧ (∀ c, 2 * c ≤ i → Wr c μ = Wr (c + t) μ') ∧ M = some (wI ν' 61 0 (1470 + 9 * S0 + 8) (nI S')) ∧ CS μ' ν' b n i' m' K' V' s' ∧ WV B μ' ν' S' (p1 + 1) d ∧ S ≤ S' ∧ Q ≤ p1 ∧ Seg μ' 4 (vv ν') 0 (S' - S) (3 - (d + 1)) S S' Q p1 ∧ (rI μ' 43 4 p1 = 25 ∧ rI μ' 48 4 p1 = nI Q0 ∧ rI μ' 48 4 Q0 = nI p1) ∧ (kq qXw μ μ' ∧ (∀ k i j, rR μ' k i j = rR μ k i j) ∧ kq qMw ν ν') ∧ (∀ k j, 43 ≤ k → k ≤ 48 → j < Q → (k ≠ 48 ∨ j ≠ Q0) → rI μ' k 4 j = rI μ k 4 j) ∧ (∀ j, j < d → rI μ' 49 0 j = rI μ 49 0 j) ∧ (∀ j, j < 1470 + 9 * S → rI ν' 61 0 j = rI ν 61 0 j))
abbrev enX (μ : sM) (Q Q0 d : Nat) : sM := wI (wI (wI (adX (wI μ 10 0 4 (nI d)) Q 25) 10 0 3 (nI Q)) 48 4 Q (nI Q0)) 48 4 Q0 (nI Q)
theorem bodyP {rec : Int32 → sM → Option sM} (n3 : n ≤ 300) {d S0 Q0 : Nat} (d3 : d < 3) (hS0 : S0 < 30)
    (hrec : ∀ (i S Q : Nat) (μ ν : sM) (m K s : Nat) (V : Int64), CS μ ν b n i m K V s → WV B μ ν S Q (d + 1) → K ≠ 25 → SRs B μ ν b n i S Q (d + 1) (rec (nI (d + 1)) ν)) :
    ∀ (k i fu S Q : Nat) (μ ν : sM) (m K s : Nat) (V : Int64), n ≤ i + k → k + 1 < fu → CS μ ν b n i m K V s → WV B μ ν S Q (d + 1) → rI μ 49 0 d = nI Q0 → Q0 < Q → S0 < S → BRs B μ ν b n i S Q d S0 Q0 (X12_readStep_L142 rec fu (nI d) (nI 1) (nI (1470 + 9 * S0)) ν) := by
  intro k
  induction k with
  | zero =>
    intro i fu S Q μ ν m K s V hk hf h w h49 hq hs
    obtain ⟨fu, rfl⟩ : ∃ f, fu = f + 2 := ⟨fu - 2, by omega⟩
    have hin := h.2.1.2.2.1
    have h8 := h.2.2.2.1
    have w8 := ix_w hS0 (x := 8) (by omega)
    -- the last TOKEN is no end and no STEP
    have K31 : 31 ≤ K := by
      obtain ⟨e, he, hc⟩ := h.2.2.2.2.2.2.2
      by_cases z : K < 31
      · have m0 : m = 0 := by omega
        subst m0
        have := (he z).2
        exact absurd hc (by show ¬ n < e; omega)
      · omega
    rw [X12_readStep_L142]
    rw [if_neg (show ¬ nI 1 = 0 by decide +kernel), h.2.2.2.2.2.2.1, if_pos rfl, is_End h.2.2.2.2.1, bI_s, if_neg (show ¬ K = 25 by omega), if_pos rfl, nI_1]
    rcases hrec i S Q μ ν m K s V h w (by omega) with ⟨μ', ν', a1, a2, r, g1, g2⟩ | ⟨μ', ν', i', m', K', V', s', S', Q', t, a1, a2, a3, a4, C', -⟩
    · obtain ⟨f, f1', f7', q⟩ := FS_b r
      refine Or.inl ⟨μ', wI ν' 61 0 (1470 + 9 * S0 + 8) (rI ν' 13 0 26), a1, ?_, FS_61 r, g1, kq_wI (qMw61 _ (by omega)) g2⟩
      rw [a2, bV_s, b_192 q f1' f7' hS0 (by omega)]
    · exfalso
      have := C'.2.1.2.2.1
      omega
  | succ k ih =>
    intro i fu S Q μ ν m K s V hk hf h w h49 hq hs
    obtain ⟨fu, rfl⟩ : ∃ f, fu = f + 2 := ⟨fu - 2, by omega⟩
    have hin := h.2.1.2.2.1
    have h5 := h.2.2.1.1
    have h8 := h.2.2.2.1
    have h11 := h.2.2.2.2.2.2.1
    have w8 := ix_w hS0 (x := 8) (by omega)
    obtain ⟨⟨w1, w2, w3, w4⟩, ⟨w5, w6, w7, w8'⟩, ⟨w9, w10⟩, w11⟩ := id w
    rw [X12_readStep_L142]
    rw [if_neg (show ¬ nI 1 = 0 by decide +kernel), h11, if_pos rfl, is_End h.2.2.2.2.1, bI_s]
    by_cases c25 : K = 25
    · rw [if_pos c25, if_neg n10]
      unfold X12_readStep_J170
      rw [if_neg (show ¬ nI 1 = 0 by decide +kernel), is_End h.2.2.2.2.1, bI_s, if_pos c25, must1 h, if_neg n10]
      have C1 : CS (enX μ Q Q0 d) ν b n i m K V s := CS_c h (kq_wI rfl (kq_wI rfl (kq_wI rfl (kq_wI rfl (kq_wI rfl (kq_wI rfl (kq_wI rfl (kq_wI rfl (kq_wI rfl (kq_wI rfl (kq_wI rfl kq_r))))))))))) kq_r
      obtain ⟨μ2, ν2, m2, K2, V2, s2, a1, a2, C2, f2, g2, -⟩ := adv2 C1 (by omega)
      have ar := addRow_e (μ := wI μ 10 0 4 (nI d)) (Q := Q) (by rw [rI_k (by decide)]; exact w5) (by omega) 25
      have eB : X9_beginEnd μ = some (1, μ2) := by
        unfold X9_beginEnd
        rw [w6, nI_pred, if_pos (inb_nI d3 (by omega)), ar, bI_s, if_pos (inb_nI (by omega) (by omega)), ix_nI (show d < 2 ^ 31 by omega), h49, if_pos (inb_nI (by omega) (by omega)), ix_nI (show Q < 2 ^ 31 by omega), ix_nI (show Q0 < 2 ^ 31 by omega)]
        rw [show rR (adX (wI μ 10 0 4 (nI d)) Q 25) 10 0 1 = 1 from w9, if_pos rfl, a1, bV_s]
      have e103 : rI μ2 10 0 3 = nI Q := by
        rw [(f2.1 10 0 3 rfl).1, rI_k (by decide), rI_k (by decide), rI_s]
      have e43 : rI μ2 43 4 Q = 25 := by
        rw [(f2.1 43 4 Q rfl).1, rI_k (by decide), rI_k (by decide), rI_k (by decide), rI_k (by decide), rI_k (by decide), rI_k (by decide), rI_k (by decide), rI_k (by decide), rI_k (by decide), rI_s]
      have eR : X9_readRest μ2 = some (1, μ2) := by
        unfold X9_readRest
        rw [e103, if_pos (inb_nI (by omega) (by omega)), ix_nI (by omega), e43, if_neg (by decide +kernel), if_neg (by decide +kernel), if_neg (by decide +kernel), if_neg (by decide +kernel), if_neg (by decide +kernel)]
      have r2 : rR μ2 10 0 1 = 1 := (f2.2 10 0 1).trans w9
      have eW : ∀ c, 2 * c ≤ i → Wr c μ = bI (X6_takeEnd μ2) fun x4 μ5 => if x4 = 0 then some (0, μ5) else Wr (c + 1) μ5 := by
        intro c hc
        rw [Wr_u (by omega) w9, h5, if_neg (show ¬ nI K = 32 from fun z => absurd ((nI_eq (b := 32) (by omega) (by omega)).mp z) (by omega)), if_pos (show nI K = 25 by rw [c25]; rfl), w6, if_neg (nI_nle (by omega) (by omega)), eB, bI_s]
        show (if (1 : Int32) = 0 then _ else _) = _
        rw [if_neg n10, eR, bI_s, if_neg n10, r2, if_pos rfl]
      have kX : kq qXw μ μ2 := kq_t (kq_wI rfl (kq_wI rfl (kq_wI rfl (kq_wI rfl (kq_wI rfl (kq_wI rfl (kq_wI rfl (kq_wI rfl (kq_wI rfl (kq_wI rfl (kq_wI rfl kq_r))))))))))) (FX_w f2)
      have eM : ∀ ν5, endM ν2 = some ν5 → (bV (bV (X12_advance ν) fun μ4 => some μ4) fun μ4 => bI (X12_isSign 59 μ4) fun x5 μ6 => bV (X12_must x5 μ6) fun μ8 => X12_readStep_J192 rec (nI (1470 + 9 * S0)) μ8) = some (wI ν5 61 0 (1470 + 9 * S0 + 8) (rI ν5 13 0 26)) := by
        intro ν5 e5
        obtain ⟨y, ey⟩ := so_Sign 59 ν2
        have e5' : bI (X12_isSign 59 ν2) (fun x ρ' => X12_must x ρ') = some ν5 := e5
        rw [ey, bI_s] at e5'
        rw [a2, bV_s, bV_s, ey, bI_s, e5', bV_s]
        unfold X12_readStep_J192
        rw [n8, if_pos w8.1, w8.2]
      rcases takeE C2 with ⟨μ5, ν5, m5, K5, V5, s5, t1, t2, C5, f5, g5⟩ | ⟨μ5, ν5, t1, t2, r, f5, g5⟩
      · have xk : ∀ k j, k ≠ 7 → rI μ5 k 4 j = rI (enX μ Q Q0 d) k 4 j := fun k j hk => by
          rw [(f5.1 k 4 j (by unfold qXt; simp [hk])).1, (f2.1 k 4 j (by unfold qXt; simp [hk])).1]
        have x0 : ∀ k j, k ≠ 7 → rI μ5 k 0 j = rI (enX μ Q Q0 d) k 0 j := fun k j hk => by
          rw [(f5.1 k 0 j (by unfold qXt; simp [hk])).1, (f2.1 k 0 j (by unfold qXt; simp [hk])).1]
        have e26 : rI ν5 13 0 26 = nI S := by rw [(g5 13 0 26 rfl).1, (g2 13 0 26 rfl).1]; exact w3
        refine Or.inr ⟨μ5, ν5, i + 1 + 1, m5, K5, V5, s5, S, Q, 1, by omega, fun c hc => by rw [eW c hc, t1, bI_s, if_neg n10], by rw [eM ν5 t2, e26], C5, ⟨⟨?_, ?_, e26, w4⟩, ⟨?_, ?_, by omega, by omega⟩, ⟨?_, ?_⟩, ?_⟩, Nat.le_refl S, Nat.le_refl Q, ?_, ⟨?_, ?_, ?_⟩, ⟨kq_t kX (FX_w f5), fun k i j => (f5.2 k i j).trans (f2.2 k i j), kq_t (FM_w g2) (FM_w g5)⟩, fun k j x y z v => ?_, fun j hj => ?_, fun j hj => ?_⟩
        · rw [xk 9 0 (by decide), rI_k (by decide), rI_k (by decide), rI_k (by decide), rI_j (by decide), rI_k (by decide), rI_k (by decide), rI_k (by decide), rI_k (by decide), rI_k (by decide), rI_k (by decide), rI_k (by decide)]; exact w1
        · rw [xk 9 1 (by decide), rI_k (by decide), rI_k (by decide), rI_k (by decide), rI_j (by decide), rI_k (by decide), rI_k (by decide), rI_k (by decide), rI_k (by decide), rI_k (by decide), rI_k (by decide), rI_k (by decide)]; exact w2
        · rw [xk 9 2 (by decide), rI_k (by decide), rI_k (by decide), rI_k (by decide), rI_s]
        · rw [x0 10 4 (by decide), rI_k (by decide), rI_k (by decide), rI_j (by decide), rI_k (by decide), rI_k (by decide), rI_k (by decide), rI_k (by decide), rI_k (by decide), rI_k (by decide), rI_k (by decide), rI_s]
        · rw [f5.2]; exact r2
        · rw [f5.2, f2.2]; exact w10
        · exact RelR_c (RelR_c w11 (kq_wI rfl (kq_wI rfl (kq_wI rfl (kq_wI rfl (kq_wI rfl (kq_wI rfl (kq_wI rfl (kq_wI rfl (kq_wI rfl (kq_wI rfl (kq_wI rfl kq_r))))))))))) kq_r (Int.le_refl B)) (kq_t (kq_m f2.1 qR0_x) (kq_m f5.1 qR0_x)) (kq_t (kq_m g2 qR0_m) (kq_m g5 qR0_m)) (Int.le_refl B)
        · rw [Nat.sub_self]; exact ⟨rfl, rfl⟩
        · rw [(f5.1 43 4 Q rfl).1]; exact e43
        · rw [xk 48 Q (by decide), rI_j (by omega), rI_s]
        · rw [xk 48 Q0 (by decide), rI_s]
        · rw [xk k j (by omega)]
          by_cases k48 : k = 48
          · subst k48
            rw [rI_j (by omega), rI_j (by omega), rI_k (by decide), rI_k (by decide), rI_j (by omega), rI_k (by decide), rI_k (by decide), rI_k (by decide), rI_k (by decide), rI_k (by decide), rI_k (by decide)]
          · rw [rI_k k48, rI_k k48, rI_k (by omega), rI_k (by omega), rI_k k48, rI_j (by omega), rI_j (by omega), rI_j (by omega), rI_j (by omega), rI_j (by omega), rI_k (by omega)]
        · rw [x0 49 j (by decide), rI_k (by decide), rI_k (by decide), rI_k (by decide), rI_k (by decide), rI_k (by decide), rI_k (by decide), rI_k (by decide), rI_k (by decide), rI_k (by decide), rI_k (by decide), rI_k (by decide)]
        · rw [(g5 61 0 j rfl).1, (g2 61 0 j rfl).1]
      · exact Or.inl ⟨μ5, wI ν5 61 0 (1470 + 9 * S0 + 8) (rI ν5 13 0 26), fun c hc => by rw [eW c hc, t1, bI_s, if_pos rfl], eM ν5 t2, FS_61 r, kq_t kX (FX_w f5), kq_wI (qMw61 _ (by omega)) (kq_t (FM_w g2) (FM_w g5))⟩
    · rw [if_neg c25, if_pos rfl, nI_1]
      rcases hrec i S Q μ ν m K s V h w c25 with ⟨μ', ν', a1, a2, r, g1, g2⟩ | ⟨μ1, ν1, i1, m1, K1, V1, s1, S1, Q1, t1, a1, a2, a3, a4, C1, W1, hS1, hQ1, El, F1⟩
      · obtain ⟨f, f1', f7', q⟩ := FS_b r
        refine Or.inl ⟨μ', wI ν' 61 0 (1470 + 9 * S0 + 8) (rI ν' 13 0 26), a1, ?_, FS_61 r, g1, kq_wI (qMw61 _ (by omega)) g2⟩
        rw [a2, bV_s, b_192 q f1' f7' hS0 (by omega)]
      · rw [a4, bV_s]
        have h49' : rI μ1 49 0 d = nI Q0 := (F1.2.2.1 d (by omega)).trans h49
        rcases ih i1 (fu + 1) S1 Q1 μ1 ν1 m1 K1 s1 V1 (by omega) (by omega) C1 W1 h49' (by omega) (by omega) with ⟨μ', ν', b1, b2, r, g1, g2⟩ | ⟨μ', ν', i', m', K', V', s', S', p1, t, b1, b2, b3, C', W', hS', hp1, sg, ⟨q1, q2, q3⟩, ⟨k1, k2, k3⟩, k4, k5, k6⟩
        · exact Or.inl ⟨μ', ν', fun c hc => by rw [a3 c hc, b1 (c + t1) (by omega)], b2, r, kq_t F1.1.1 g1, kq_t F1.1.2.2 g2⟩
        · have El' : Elt μ' ν' (d + 1) S S1 Q Q1 := Elt_v El hS1 hQ1 W1.1.2.2.2 (fun k j x y z v => k4 k j x y v (by omega)) k6
          refine Or.inr ⟨μ', ν', i', m', K', V', s', S', p1, t1 + t, by omega, fun c hc => by rw [a3 c hc, b2 (c + t1) (by omega), Nat.add_assoc], b3, C', W', by omega, by omega, Elt_cons El' sg hS1 hQ1 hS' hp1, ⟨q1, q2, q3⟩, ⟨kq_t F1.1.1 k1, fun k i j => (k2 k i j).trans (F1.1.2.1 k i j), kq_t F1.1.2.2 k3⟩, fun k j x y z v => (k4 k j x y (by omega) v).trans (F1.2.1 k j x y z), fun j hj => (k5 j hj).trans (F1.2.2.1 j (by omega)), fun j hj => (k6 j (by omega)).trans (F1.2.2.2 j hj)⟩
theorem stepP (n3 : n ≤ 300) : ∀ (N d i S Q : Nat) (μ ν : sM) (m K s : Nat) (V : Int64), 3 < N + d → CS μ ν b n i m K V s → WV B μ ν S Q d → (K ≠ 32 ∨ 0 < d) → (K ≠ 25 ∨ d = 0) → SRs B μ ν b n i S Q d (X12_readStepN N (nI d) ν) := by
  intro N
  induction N with
  | zero =>
    intro d i S Q μ ν m K s V hN h w hK hE
    have := w.2.1.2.2.1
    omega
  | succ N ih =>
    intro d i S Q μ ν m K s V hN h w hK hE
    show SRs B μ ν b n i S Q d (X12_readStep_ (X12_readStepN N) (nI d) ν)
    rcases headS (rec := X12_readStepN N) n3 h w hK hE with hb | ⟨fl, μ1, ν1, i1, m1, K1, V1, s1, hs, S30, hfl, hi1, e1, e2, C1, ⟨row, r43⟩, W1, F1⟩
    · exact Or.inl hb
    · have w8 := ix_w S30 (x := 8) (by omega)
      have hin := C1.2.1.2.2.1
      rw [e2]
      obtain ⟨wf, hwf⟩ : ∃ w, fuN = w + 1 := ⟨fuN - 1, by unfold fuN; omega⟩
      rcases hs with ⟨hk, rfl⟩ | ⟨hk, rfl⟩
      · obtain ⟨d3, h49⟩ := hfl rfl
        have hb := bodyP (B := B) (b := b) (n := n) (rec := X12_readStepN N) (d := d) (S0 := S) (Q0 := Q) n3 d3 S30 (fun i S Q μ ν m K s V hC hW h25 => ih (d + 1) i S Q μ ν m K s V (by omega) hC hW (Or.inr (by omega)) (Or.inl h25)) n i1 fuN (S + 1) (Q + 1) μ1 ν1 m1 K1 s1 V1 (by omega) (fuN_6 (by omega)) C1 W1 h49 (by omega) (by omega)
        rcases hb with ⟨μ', ν', b1, b2, r, g1, g2⟩ | ⟨μ', ν', i', m', K', V', s', S', p1, t, b1, b2, b3, C', W', hS', hp1, sg, ⟨q1, q2, q3⟩, ⟨k1, k2, k3⟩, k4, k5, k6⟩
        · exact Or.inl ⟨μ', ν', fun c hc => by rw [e1 c hc, b1 (c + 1) (by omega)], b2, r, kq_t F1.1.1 g1, kq_t F1.1.2.2 g2⟩
        · have S30' := W'.1.2.2.2
          have hs' : ∀ s x, s < 30 → x < 9 → (s ≠ S ∨ x ≠ 8) → stp (vv (wI ν' 61 0 (1470 + 9 * S + 8) (nI S'))) 0 s x = stp (vv ν') 0 s x := fun s x h1 h2 h3 => by
            rw [vv_s h1 h2, vv_s h1 h2, rI_j (by omega)]
          have hc' : ∀ j, j < 3 → rI (vv (wI ν' 61 0 (1470 + 9 * S + 8) (nI S'))) 61 0 (348 * 0 + j) = rI (vv ν') 61 0 (348 * 0 + j) := fun j hj => by rw [vv_c (by omega), vv_c (by omega), rI_j (by omega)]
          have c0' := hc' 0 (by omega)
          rw [Nat.add_zero] at c0'
          have s0 : ∀ x, x < 8 → stp (vv (wI ν' 61 0 (1470 + 9 * S + 8) (nI S'))) 0 S x = stp (vv ν1) 0 S x := fun x hx => by
            rw [hs' S x S30 (by omega) (Or.inr (by omega)), vv_s S30 (by omega), vv_s S30 (by omega), k6 _ (by omega)]
          have cc : ∀ j, j < 3 → rI (vv (wI ν' 61 0 (1470 + 9 * S + 8) (nI S'))) 61 0 (348 * 0 + j) = rI (vv ν1) 61 0 (348 * 0 + j) := fun j hj => by
            rw [hc' j hj, vv_c (by omega), vv_c (by omega), k6 _ (by omega)]
          have cc0 := cc 0 (by omega)
          rw [Nat.add_zero] at cc0
          have row' : RowR μ' 4 (vv (wI ν' 61 0 (1470 + 9 * S + 8) (nI S'))) 0 S Q := by
            unfold RowR
            rw [s0 0 (by omega), s0 1 (by omega), s0 2 (by omega), s0 6 (by omega), s0 7 (by omega), k4 43 Q (by omega) (by omega) (by omega) (by omega), k4 44 Q (by omega) (by omega) (by omega) (by omega), k4 45 Q (by omega) (by omega) (by omega) (by omega), k4 46 Q (by omega) (by omega) (by omega) (by omega), k4 47 Q (by omega) (by omega) (by omega) (by omega), cc0, cc 1 (by omega), cc 2 (by omega)]
            exact row
          have kd : stp (vv (wI ν' 61 0 (1470 + 9 * S + 8) (nI S'))) 0 S 0 = 7 ∨ stp (vv (wI ν' 61 0 (1470 + 9 * S + 8) (nI S'))) 0 S 0 = 8 := by
            have e43 : rI μ' 43 4 Q = nI K := (k4 43 Q (by omega) (by omega) (by omega) (by omega)).trans r43
            have nk : ∀ x : Nat, x < 33 → nI K = nI x → K = x := fun x hx e => (nI_eq (by have := h.2.2.2.1; omega) (by omega)).mp e
            rcases row' with ⟨a, c, -⟩ | ⟨a, c, -⟩ | ⟨a, c⟩ | ⟨a, c, -⟩ | ⟨a, c⟩ | ⟨a, c⟩ | ⟨a, c⟩ | ⟨a, c, -⟩ | ⟨a, c, -⟩ | ⟨a, c⟩
            · have := nk 14 (by omega) (e43.symm.trans c); omega
            · have := nk 15 (by omega) (e43.symm.trans c); omega
            · have := nk 17 (by omega) (e43.symm.trans c); omega
            · have := nk 6 (by omega) (e43.symm.trans c); omega
            · have := nk 2 (by omega) (e43.symm.trans c); omega
            · have := nk 18 (by omega) (e43.symm.trans c); omega
            · have := nk 19 (by omega) (e43.symm.trans c); omega
            · exact Or.inl a
            · exact Or.inr a
            · have := nk 26 (by omega) (e43.symm.trans c); omega
          refine Or.inr ⟨μ', wI ν' 61 0 (1470 + 9 * S + 8) (nI S'), i', m', K', V', s', S', p1 + 1, 1 + t, by omega, by omega, fun c hc => by rw [e1 c hc, b2 (c + 1) (by omega), Nat.add_assoc], b3, CS_61 C', ?_, by omega, by omega, ⟨row', Or.inr ⟨kd, p1, ?_, by omega, by omega, rfl, ⟨d3, ?_⟩, q1, q2, q3⟩⟩, ⟨⟨kq_t F1.1.1 k1, fun k i j => (k2 k i j).trans (F1.1.2.1 k i j), kq_wI (qMw61 _ (by omega)) (kq_t F1.1.2.2 k3)⟩, fun k j x y z => ?_, fun j hj => ?_, fun j hj => ?_⟩⟩
          · obtain ⟨⟨u1, u2, u3, u4⟩, u5, u6, u7⟩ := W'
            have q61 : qR 0 0 61 0 (1470 + 9 * S + 8) = false := by
              apply Bool.eq_false_iff.mpr
              intro z
              unfold qR rk at z
              simp only [Bool.or_eq_true, Bool.and_eq_true, beq_iff_eq, Nat.ble_eq] at z
              omega
            exact ⟨⟨u1, u2, by rw [rI_k (by decide)]; exact u3, u4⟩, u5, u6, RelR_c u7 kq_r (kq_wI q61 kq_r) (Int.le_refl B)⟩
          · rw [vv_s S30 (by omega), rI_s]
          · exact Seg_v2 (μ := μ') (ν := vv ν') (L := Q + 1) (R := p1) (A := S + 1) (E := S') (w := 4) (w' := 4) (bb := 0) (bb' := 0) (fun _ _ _ _ _ _ => rfl) (fun s x h0 h1 h2 => hs' _ _ (by omega) h2 (Or.inl (by omega))) hc' _ _ _ _ _ _ (Nat.le_refl _) (Nat.le_refl _) (Nat.le_refl _) (Nat.le_refl _) sg
          · rw [k4 k j x y (by omega) (by omega)]
            exact F1.2.1 k j x y z
          · rw [k5 j hj]
            exact F1.2.2.1 j hj
          · rw [rI_j (by omega), k6 j (by omega)]
            exact F1.2.2.2 j hj
      · have e192 : X12_readStep_L142 (X12_readStepN N) fuN (nI d) (nI 0) (nI (1470 + 9 * S)) ν1 = some (wI ν1 61 0 (1470 + 9 * S + 8) (nI (S + 1))) := by
          rw [hwf, X12_readStep_L142]
          rw [if_pos (show nI 0 = 0 from rfl)]
          unfold X12_readStep_J170 X12_readStep_J192
          rw [if_pos (show nI 0 = 0 from rfl), n8, if_pos w8.1, w8.2, W1.1.2.2.1]
        have hs' : ∀ x, x < 8 → stp (vv (wI ν1 61 0 (1470 + 9 * S + 8) (nI (S + 1)))) 0 S x = stp (vv ν1) 0 S x := fun x h2 => by
          rw [vv_s S30 (by omega), vv_s S30 (by omega), rI_j (by omega)]
        have hc' : ∀ j, j < 3 → rI (vv (wI ν1 61 0 (1470 + 9 * S + 8) (nI (S + 1)))) 61 0 (348 * 0 + j) = rI (vv ν1) 61 0 (348 * 0 + j) := fun j hj => by rw [vv_c (by omega), vv_c (by omega), rI_j (by omega)]
        have c0' := hc' 0 (by omega)
        rw [Nat.add_zero] at c0'
        have row' : RowR μ1 4 (vv (wI ν1 61 0 (1470 + 9 * S + 8) (nI (S + 1)))) 0 S Q := by
          unfold RowR
          rw [hs' 0 (by omega), hs' 1 (by omega), hs' 2 (by omega), hs' 6 (by omega), hs' 7 (by omega), c0', hc' 1 (by omega), hc' 2 (by omega)]
          exact row
        have kd : stp (vv (wI ν1 61 0 (1470 + 9 * S + 8) (nI (S + 1)))) 0 S 0 ≠ 7 ∧ stp (vv (wI ν1 61 0 (1470 + 9 * S + 8) (nI (S + 1)))) 0 S 0 ≠ 8 := by
          have nk : ∀ x : Nat, x < 33 → nI K = nI x → K = x := fun x hx e => (nI_eq (by have := h.2.2.2.1; omega) (by omega)).mp e
          rcases row' with ⟨a, -⟩ | ⟨a, -⟩ | ⟨a, -⟩ | ⟨a, -⟩ | ⟨a, -⟩ | ⟨a, -⟩ | ⟨a, -⟩ | ⟨a, c, -⟩ | ⟨a, c, -⟩ | ⟨a, -⟩
          · rw [a]; decide +kernel
          · rw [a]; decide +kernel
          · rw [a]; decide +kernel
          · rw [a]; decide +kernel
          · rw [a]; decide +kernel
          · rw [a]; decide +kernel
          · rw [a]; decide +kernel
          · have := nk 20 (by omega) (r43.symm.trans c); omega
          · have := nk 24 (by omega) (r43.symm.trans c); omega
          · rw [a]; decide +kernel
        refine Or.inr ⟨μ1, wI ν1 61 0 (1470 + 9 * S + 8) (nI (S + 1)), i1, m1, K1, V1, s1, S + 1, Q + 1, 1, by omega, by omega, e1, e192, CS_61 C1, ?_, by omega, by omega, ⟨row', Or.inl ⟨kd.1, kd.2, ?_, rfl, rfl⟩⟩, ⟨⟨F1.1.1, F1.1.2.1, kq_wI (qMw61 _ (by omega)) F1.1.2.2⟩, F1.2.1, F1.2.2.1, fun j hj => ?_⟩⟩
        · obtain ⟨⟨u1, u2, u3, u4⟩, u5, u6, u7⟩ := W1
          have q61 : qR 0 0 61 0 (1470 + 9 * S + 8) = false := by
            apply Bool.eq_false_iff.mpr
            intro z
            unfold qR rk at z
            simp only [Bool.or_eq_true, Bool.and_eq_true, beq_iff_eq, Nat.ble_eq] at z
            omega
          exact ⟨⟨u1, u2, by rw [rI_k (by decide)]; exact u3, u4⟩, u5, u6, RelR_c u7 kq_r (kq_wI q61 kq_r) (Int.le_refl B)⟩
        · rw [vv_s S30 (by omega), rI_s]
        · rw [rI_j (by omega)]
          exact F1.2.2.2 j hj
end C98w
