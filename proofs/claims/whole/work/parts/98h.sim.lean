/-! 98h: the whole of WEEKS, on both sides -/
section C98h
variable {B : Int} {μ ν : sM} {r l Q : Nat}
theorem Res_w {c lo hi lo' hi' d p q : Nat} {M : Option sM} (h : Res B r l c lo hi μ ν d p q M) (a : lo' ≤ lo) (b : hi ≤ hi') : Res B r l c lo' hi' μ ν d p q M := by
  obtain ⟨μ', ν', d', T, e1, h1, g1, f1, h2⟩ := h
  exact ⟨μ', ν', d', T, e1, h1, GX_m g1 a b, f1, h2⟩
theorem Res_0 {lo hi d p : Nat} (h : St B μ r l ν d) : Res B r l 0 lo hi μ ν d p p (some ν) := ⟨μ, ν, d, 0, rfl, Nat.le_refl d, GX_r, mf3_r, Or.inl ⟨h, Nat.zero_le _, fun _ _ => rfl⟩⟩
abbrev m1 (ν : sM) (d : Nat) : sM := wI ν 13 0 43 (nI (d + 1))
abbrev x1_ (μ : sM) (l d : Nat) : sM := wI (wI μ 2 l 1 (nI (d + 1))) 2 l 2 (rI μ 2 l 2)
theorem St_n {d : Nat} (h : St B μ r l ν d) (d3 : d < 300) : St B (x1_ μ l d) r l (m1 ν d) (d + 1) := by
  obtain ⟨h1, ⟨⟨c1, c2, c3⟩, c4⟩, h2, h3, h4⟩ := h
  refine ⟨LfS_13 (LfS_2 (LfS_2 h1 (by omega)) (by omega)) (by omega), ⟨⟨?_, rI_s, by omega⟩, ?_⟩, ?_, ?_, ?_⟩
  · rw [rI_j (by decide), rI_s]
  · rw [rI_s, rI_j (by decide)]; exact c4
  · rw [rI_j (by decide), rI_j (by decide)]; exact h2
  · rw [rI_j (by decide)]; exact h3
  · rw [rI_j (by decide)]; exact h4
theorem GX_n {lo hi d : Nat} : GX r l lo hi μ (x1_ μ l d) := GX_2 (GX_2 GX_r (by decide)) (by decide)
theorem mf_n {d : Nat} : mf3 ν (m1 ν d) := mf3_13 mf3_r (by omega)
theorem x1_o {d k i j : Nat} (h : k ≠ 2) : rI (x1_ μ l d) k i j = rI μ k i j := by rw [rI_k h, rI_k h]
theorem m1_c {d j : Nat} : rI (m1 ν d) 61 0 j = rI ν 61 0 j := rI_k (by decide)
/-- rows that are no plain STEP -/
theorem Rn_blk {t p d : Nat} {w : Int32} (ht : t ≤ 900000) (h : St B μ r l ν d) (d3 : d < 300) (hQ : rI μ 9 0 2 = nI Q) (Q60 : Q ≤ 60) (hp : p < Q) (hw : rI μ 43 0 p = w) (c : w = 20 ∨ w = 24 ∨ w = 26) : Rn l t p μ = bI (X1_rowBehindStep l (nI p) (x1_ μ l d)) (Rk l t) := by
  obtain ⟨h1, ⟨⟨c1, c2, c3⟩, c4⟩, h2, h3, h4⟩ := h
  have e : X1_isDone l (nI p) (wI μ 2 l 1 (nI (d + 1))) = some (1, wI μ 2 l 1 (nI (d + 1))) := by
    rw [isDone_u (w := w) (show rR (wI μ 2 l 1 (nI (d + 1))) 2 l 9 = 1 from h1.1.2) (by omega) (by rw [rI_k (by decide)]; exact hw)]
    rcases c with rfl | rfl | rfl <;> rw [if_neg (by decide +kernel), if_neg (by decide +kernel), if_neg (by decide +kernel), if_neg (by decide +kernel), if_neg (by decide +kernel), if_neg (by decide +kernel), if_neg (by decide +kernel)]
  rw [Rn_u ht h1.1.2 hQ Q60 hp h2 hw, if_neg (by rcases c with rfl | rfl | rfl <;> decide +kernel), c1, if_pos (show nI d < 300 from nI_lt (b := 300) d3 (by omega)), nI_1, e, bI_s, if_neg n10, Int32.add_zero]
theorem row_w {s p : Nat} (h : RowR μ 0 ν 0 s p) : (stp ν 0 s 0 < 7 ∧ rI μ 43 0 p ≠ 20 ∧ rI μ 43 0 p ≠ 24 ∧ rI μ 43 0 p ≠ 25 ∧ rI μ 43 0 p ≠ 26) ∨ (stp ν 0 s 0 = 7 ∧ rI μ 43 0 p = 20) ∨ (stp ν 0 s 0 = 8 ∧ rI μ 43 0 p = 24 ∧ rI μ 45 0 p = stp ν 0 s 1 ∧ rg (stp ν 0 s 1) 1 99) ∨ (stp ν 0 s 0 = 9 ∧ rI μ 43 0 p = 26) := by
  rcases h with ⟨k, w, -⟩ | ⟨k, w, -⟩ | ⟨k, w⟩ | ⟨k, w, -⟩ | ⟨k, w⟩ | ⟨k, w⟩ | ⟨k, w⟩ | ⟨k, w, -⟩ | ⟨k, w, a, b⟩ | ⟨k, w⟩
  · rw [k, w]; exact Or.inl ⟨by decide +kernel, by decide +kernel, by decide +kernel, by decide +kernel, by decide +kernel⟩
  · rw [k, w]; exact Or.inl ⟨by decide +kernel, by decide +kernel, by decide +kernel, by decide +kernel, by decide +kernel⟩
  · rw [k, w]; exact Or.inl ⟨by decide +kernel, by decide +kernel, by decide +kernel, by decide +kernel, by decide +kernel⟩
  · rw [k, w]; exact Or.inl ⟨by decide +kernel, by decide +kernel, by decide +kernel, by decide +kernel, by decide +kernel⟩
  · rw [k, w]; exact Or.inl ⟨by decide +kernel, by decide +kernel, by decide +kernel, by decide +kernel, by decide +kernel⟩
  · rw [k, w]; exact Or.inl ⟨by decide +kernel, by decide +kernel, by decide +kernel, by decide +kernel, by decide +kernel⟩
  · rw [k, w]; exact Or.inl ⟨by decide +kernel, by decide +kernel, by decide +kernel, by decide +kernel, by decide +kernel⟩
  · exact Or.inr (Or.inl ⟨k, w⟩)
  · exact Or.inr (Or.inr (Or.inl ⟨k, w, a, b⟩))
  · exact Or.inr (Or.inr (Or.inr ⟨k, w⟩))
/-- one plain STEP -/
theorem plain (hB : 0 ≤ B ∧ B ≤ 1000000000) {rec : Int32 → Int32 → sM → Option sM} {s p d lo hi : Nat} (h : St B μ r l ν d) (d3 : d < 300) (hQ : rI μ 9 0 2 = nI Q) (Q60 : Q ≤ 60) (hp : p < Q) (hs : s < 30) (hR : RowR μ 0 ν 0 s p) (h7 : stp ν 0 s 0 < 7) (n20 : rI μ 43 0 p ≠ 20) (n24 : rI μ 43 0 p ≠ 24) (n25 : rI μ 43 0 p ≠ 25) (n26 : rI μ 43 0 p ≠ 26) : ∃ μ5 ν5, St B μ5 r l ν5 (d + 1) ∧ GX r l lo hi μ μ5 ∧ mf3 ν ν5 ∧ X12_doOne_ rec (nI s) ν = some ν5 ∧ ∀ t, t ≤ 900000 → Rn l t p μ = Rn l (t + 1) (p + 1) μ5 := by
  obtain ⟨h1, ⟨⟨c1, c2, c3⟩, c4⟩, h2, h3, h4⟩ := h
  have k1 : keep (nL r l) μ (wI μ 2 l 1 (nI (d + 1))) := keep_wI nL_2 keep_r
  obtain ⟨x, μ4, ν4, e1, e2, hx, L4, fX, fM⟩ := step_sg hB (LfS_13 (j := 43) (v := nI (d + 1)) (LfS_2 (j := 1) (v := nI (d + 1)) h1 (by omega)) (by omega)) hs (show p < 60 by omega) (Row_c hR (kq_nL k1) (kq_mf3 mf_n) hs) (by rw [stp0, m1_c, ← stp0]; exact h7)
  have fin : ∀ v : Int32, (∀ t, t ≤ 900000 → Rn l t p μ = bI (X1_rowBehindStep l (nI p) (wI μ4 2 l 2 v)) (Rk l t)) → X12_doOne_ rec (nI s) ν = some (wI ν4 13 0 44 v) → ∃ μ5 ν5, St B μ5 r l ν5 (d + 1) ∧ GX r l lo hi μ μ5 ∧ mf3 ν ν5 ∧ X12_doOne_ rec (nI s) ν = some ν5 ∧ ∀ t, t ≤ 900000 → Rn l t p μ = Rn l (t + 1) (p + 1) μ5 := by
    intro v hv1 hv2
    have kk : keep (nL r l) μ (wI μ4 2 l 2 v) := keep_wI nL_2 (keep_t k1 fX.1)
    refine ⟨wI μ4 2 l 2 v, wI ν4 13 0 44 v, ⟨LfS_13 (LfS_2 L4 (by omega)) (by omega), ⟨⟨?_, ?_, by omega⟩, ?_⟩, ?_, ?_, ?_⟩, ?_, mf3_13 (mf3_t mf_n fM.1) (by omega), hv2, fun t ht => ?_⟩
    · rw [rI_j (by decide), fX.2.1 1 (by omega), rI_s]
    · rw [rI_j (by decide), fM.2 43 (by omega), rI_s]
    · rw [rI_s, rI_s]
    · rw [rI_j (by decide), fX.2.1 6 (by omega), rI_j (by decide)]; exact h2
    · rw [rI_j (by decide), fM.2 41 (by omega), rI_j (by decide)]; exact h3
    · rw [rI_j (by decide), fM.2 48 (by omega), rI_j (by decide)]; exact h4
    · exact GX_2 (GX_t (GX_2 GX_r (by decide)) (GX_F fX)) (by decide)
    · have hw : rI (wI μ4 2 l 2 v) 43 0 p = rI μ 43 0 p := (kk 43 0 rfl p).1
      rw [hv1 t ht, rb_u (show rR (wI μ4 2 l 2 v) 2 l 9 = 1 from L4.1.2) (by omega) hw, if_neg n20, if_neg n24, if_neg n26, bI_s]
  have eR : ∀ t, t ≤ 900000 → Rn l t p μ = if x = 0 then bI (X1_rowBehindStep l (nI p) (wI μ4 2 l 2 (rI μ 2 l 2 + 1))) (Rk l t) else bI (X1_rowBehindStep l (nI p) (wI μ4 2 l 2 (rI μ 2 l 2 + 0))) (Rk l t) := by
    intro t ht
    rw [Rn_u ht h1.1.2 hQ Q60 hp h2 rfl, if_neg n25, c1, if_pos (show nI d < 300 from nI_lt (b := 300) d3 (by omega)), nI_1, e1, bI_s]
  have h7' : ¬ (7 : Int32) ≤ rI ν 61 0 (78 + 9 * s) := by
    rw [stp0, Nat.add_zero] at h7
    exact Int32.not_le.mpr h7
  have eM : X12_doOne_ rec (nI s) ν = if x = 0 then some (wI ν4 13 0 44 (rI ν 13 0 44 + 1)) else some (wI ν4 13 0 44 (rI ν 13 0 44 + 0)) := by
    rw [dO_u hs c2 d3 rfl, if_neg h7', e2, bI_s]
  rcases hx with rfl | rfl
  · refine fin (rI ν 13 0 44 + 1) (fun t ht => ?_) ?_
    · rw [eR t ht, if_pos rfl, c4]
    · rw [eM, if_pos rfl]
  · refine fin (rI ν 13 0 44 + 0) (fun t ht => ?_) ?_
    · rw [eR t ht, if_neg n10, c4]
    · rw [eM, if_neg n10]
theorem L119_over {rec : Int32 → Int32 → sM → Option sM} {fu s : Nat} {v v4 : Int32} (hf : 0 < fu) (hs : s < 30) (h : rI ν 13 0 41 = 1) : X12_doOne_L119 rec fu v (nI (78 + 9 * s)) v4 ν = some ν := by
  obtain ⟨f, rfl⟩ : ∃ f, fu = f + 1 := ⟨fu - 1, by omega⟩
  unfold X12_doOne_L119
  rw [n1, if_pos (inb_nI (by omega) (by omega))]
  by_cases c : rI ν 61 0 (ix (nI (78 + 9 * s + 1))) ≤ v4
  · rw [if_pos c]
  · rw [if_neg c, h, if_neg n10]
/-- k rounds of a loop -/
theorem loopS {rec : Int32 → Int32 → sM → Option sM} {μ0 ν0 : sM} {s e1 p p1 c : Nat} (Q60 : Q ≤ 60) (hs : s < 30) (e30 : e1 ≤ 30) (hp : p < p1) (hp1 : p1 < Q) (hQ : rI μ0 9 0 2 = nI Q) (w25 : rI μ0 43 0 p1 = 25) (hm : rI μ0 48 0 p1 = nI p) (w24 : rI μ0 43 0 p = 24) (hc : rI ν0 61 0 (78 + 9 * s + 1) = nI c) (c99 : c ≤ 99) (he : rI ν0 61 0 (78 + 9 * s + 8) = nI e1)
    (hb : ∀ μ ν d, keep (nL r l) μ0 μ → mf3 ν0 ν → St B μ r l ν d → Res B r l 0 (p + 1) p1 μ ν d (p + 1) p1 (rec (nI (s + 1)) (nI e1) ν)) :
    ∀ (k i fu : Nat) (μ ν : sM) (d : Nat), i + (k + 1) = c → k + 1 < fu → keep (nL r l) μ0 μ → mf3 ν0 ν → St B μ r l ν d → rI μ 23 l p = nI (k + 1) → Res B r l (k + 1) p (p1 + 1) μ ν d (p + 1) (p1 + 1) (X12_doOne_L119 rec fu (nI s) (nI (78 + 9 * s)) (nI i) ν) := by
  intro k
  induction k with
  | zero =>
    intro i fu μ ν d hi hf a f st hk
    obtain ⟨fu, rfl⟩ : ∃ z, fu = z + 2 := ⟨fu - 2, by omega⟩
    have c1 : rI ν 61 0 (78 + 9 * s + 1) = nI c := (f.1 61 0 _ (Or.inr (Or.inl (by omega))) (by decide) (by decide) (Or.inl (by decide))).trans hc
    have c8 : rI ν 61 0 (78 + 9 * s + 8) = nI e1 := (f.1 61 0 _ (Or.inr (Or.inl (by omega))) (by decide) (by decide) (Or.inl (by decide))).trans he
    have eM : X12_doOne_L119 rec (fu + 2) (nI s) (nI (78 + 9 * s)) (nI i) ν = bV (rec (nI (s + 1)) (nI e1) ν) fun ρ => X12_doOne_L119 rec (fu + 1) (nI s) (nI (78 + 9 * s)) (nI (i + 1)) ρ := by
      rw [X12_doOne_L119]
      rw [n1, n8, if_pos (inb_nI (by omega) (by omega)), ix_nI (by omega), c1, if_neg (nI_ge (by omega) (by omega)), st.2.2.2.1, if_pos rfl, if_pos (inb_nI (by omega) (by omega)), ix_nI (by omega), c8, nI_1, nI_1]
    rw [eM]
    refine Res_bind (c1 := 0) (c2 := 1) (hb μ ν d a f st) (by omega) (by omega) (by omega) (fun μ' ν' d' hd g f' st' e1' => ?_) (fun μ' ν' d' fi f' e1' => ?_)
    · rw [e1', bV_s]
      have a' := keep_t a g.1
      have c1' : rI ν' 61 0 (78 + 9 * s + 1) = nI c := (f'.1 61 0 _ (Or.inr (Or.inl (by omega))) (by decide) (by decide) (Or.inl (by decide))).trans c1
      have eN : X12_doOne_L119 rec (fu + 1) (nI s) (nI (78 + 9 * s)) (nI (i + 1)) ν' = some ν' := by
        rw [X12_doOne_L119]
        rw [n1, if_pos (inb_nI (by omega) (by omega)), ix_nI (by omega), c1', if_pos (nI_le (by omega) (by omega))]
      rw [eN]
      refine ⟨wI μ' 23 l p (nI 0), ν', d', 1, rfl, Nat.le_refl d', GX_23 GX_r (by omega), mf3_r, Or.inl ⟨⟨LfS_23 st'.1, ⟨⟨?_, st'.2.1.1.2⟩, ?_⟩, ?_, st'.2.2.2⟩, by omega, fun t ht => ?_⟩⟩
      · rw [rI_k (by decide)]; exact st'.2.1.1.1
      · rw [rI_k (by decide)]; exact st'.2.1.2
      · rw [rI_k (by decide)]; exact st'.2.2.1
      · have z := Rn_endL (t := t) (p := p) (p1 := p1) (k := 0) (l := l) (μ := μ') (by omega) st'.1.1.2 ((a' 9 0 nL_9 2).1.trans hQ) Q60 hp1 hp st'.2.2.1 ((a' 43 0 rfl p1).1.trans w25) ((a' 48 0 rfl p1).1.trans hm) ((a' 43 0 rfl p).1.trans w24) ((g.2.2 p (by omega)).trans hk) (by omega)
        rw [if_pos rfl] at z
        exact z
    · rw [e1', bV_s]
      exact L119_over (by omega) hs fi.2.2.2
  | succ k ih =>
    intro i fu μ ν d hi hf a f st hk
    obtain ⟨fu, rfl⟩ : ∃ z, fu = z + 1 := ⟨fu - 1, by omega⟩
    have c1 : rI ν 61 0 (78 + 9 * s + 1) = nI c := (f.1 61 0 _ (Or.inr (Or.inl (by omega))) (by decide) (by decide) (Or.inl (by decide))).trans hc
    have c8 : rI ν 61 0 (78 + 9 * s + 8) = nI e1 := (f.1 61 0 _ (Or.inr (Or.inl (by omega))) (by decide) (by decide) (Or.inl (by decide))).trans he
    have eM : X12_doOne_L119 rec (fu + 1) (nI s) (nI (78 + 9 * s)) (nI i) ν = bV (rec (nI (s + 1)) (nI e1) ν) fun ρ => X12_doOne_L119 rec fu (nI s) (nI (78 + 9 * s)) (nI (i + 1)) ρ := by
      rw [X12_doOne_L119]
      rw [n1, n8, if_pos (inb_nI (by omega) (by omega)), ix_nI (by omega), c1, if_neg (nI_ge (by omega) (by omega)), st.2.2.2.1, if_pos rfl, if_pos (inb_nI (by omega) (by omega)), ix_nI (by omega), c8, nI_1, nI_1]
    rw [eM]
    refine Res_bind (c1 := 0) (c2 := k + 1 + 1) (hb μ ν d a f st) (by omega) (by omega) (by omega) (fun μ' ν' d' hd g f' st' e1' => ?_) (fun μ' ν' d' fi f' e1' => ?_)
    · rw [e1', bV_s]
      have a' := keep_t a g.1
      have st2 : St B (wI μ' 23 l p (nI (k + 1))) r l ν' d' := by
        refine ⟨LfS_23 st'.1, ⟨⟨?_, st'.2.1.1.2⟩, ?_⟩, ?_, st'.2.2.2⟩
        · rw [rI_k (by decide)]; exact st'.2.1.1.1
        · rw [rI_k (by decide)]; exact st'.2.1.2
        · rw [rI_k (by decide)]; exact st'.2.2.1
      refine Res_then (T0 := 1) (c1 := k + 1) (Nat.le_refl d') (by omega) (GX_23 GX_r (by omega)) mf3_r (fun t ht => ?_) (ih (i + 1) fu (wI μ' 23 l p (nI (k + 1))) ν' d' (by omega) (by omega) (keep_wI nL_23 a') (mf3_t f f') st2 rI_s)
      have z := Rn_endL (t := t) (p := p) (p1 := p1) (k := k + 1) (l := l) (μ := μ') (by omega) st'.1.1.2 ((a' 9 0 nL_9 2).1.trans hQ) Q60 hp1 hp st'.2.2.1 ((a' 43 0 rfl p1).1.trans w25) ((a' 48 0 rfl p1).1.trans hm) ((a' 43 0 rfl p).1.trans w24) ((g.2.2 p (by omega)).trans hk) (by omega)
      rw [if_neg (by omega)] at z
      exact z
    · rw [e1', bV_s]
      exact L119_over (by omega) hs fi.2.2.2
theorem sim (hB : 0 ≤ B ∧ B ≤ 1000000000) (Q60 : Q ≤ 60) : ∀ (n N dd s e p q fu : Nat) (μ ν : sM) (d : Nat), dd ≤ N → n < fu → n ≤ 30 → e ≤ 30 → q ≤ Q → rI μ 9 0 2 = nI Q → Seg μ 0 ν 0 n dd s e p q → St B μ r l ν d → Res B r l 0 p q μ ν d p q (X12_doAll_L2 (X12_doOne_ (X12_doAllN N)) fu (nI e) (nI s) ν) := by
  intro n
  induction n with
  | zero =>
    intro N dd s e p q fu μ ν d hN hf n30 e30 hq hQ hS st
    obtain ⟨rfl, rfl⟩ := hS
    rw [dA_end (by omega) e30]
    exact Res_0 st
  | succ n ih =>
    intro N dd s e p q fu μ ν d hN hf n30 e30 hq hQ hS st
    rcases hS with ⟨rfl, rfl⟩ | ⟨h1, h2, h3, h4⟩
    · rw [dA_end (by omega) e30]
      exact Res_0 st
    · obtain ⟨fu, rfl⟩ : ∃ f, fu = f + 1 := ⟨fu - 1, by omega⟩
      rw [dA_u h1 e30 st.2.2.2.1]
      have rw_ := row_w h3
      have w25 : rI μ 43 0 p ≠ 25 := by
        rcases rw_ with z | ⟨-, z⟩ | ⟨-, z, -⟩ | ⟨-, z⟩
        · exact z.2.2.2.1
        · rw [z]; decide +kernel
        · rw [z]; decide +kernel
        · rw [z]; decide +kernel
      by_cases d3 : d = 300
      · subst d3
        obtain ⟨g1, ⟨⟨c1, c2, c3⟩, c4⟩, g2, g3, g4⟩ := st
        rw [dO_300 c2, bV_s, dA_over (by omega) (by rw [rI_j (by decide), rI_s])]
        refine ⟨wI μ 2 l 6 1, wI (wI ν 13 0 41 1) 13 0 48 1, 300, 2, rfl, Nat.le_refl _, GX_2 GX_r (by decide), mf3_13 (mf3_13 mf3_r (by omega)) (by omega), Or.inr ⟨⟨LfS_13 (LfS_13 (LfS_2 g1 (by omega)) (by omega)) (by omega), ⟨⟨?_, ?_, by omega⟩, ?_⟩, ?_, ?_⟩, by omega, fun t ht => Rn_300 ht g1.1.2 hQ Q60 (by omega) g2 rfl w25 c1⟩⟩
        · rw [rI_j (by decide)]; exact c1
        · rw [rI_j (by decide), rI_j (by decide)]; exact c2
        · rw [rI_j (by decide), rI_j (by decide), rI_j (by decide)]; exact c4
        · rw [rI_s, rI_s]
        · rw [rI_j (by decide), rI_s]
      · have d300 : d < 300 := by
          have := st.2.1.1.2.2
          omega
        have stn := St_n st d300
        rcases h4 with ⟨k7, k8, e8, hS⟩ | ⟨k78, e1, p1, e8, s1, s2, p1a, p1b, ⟨dpos, hSb⟩, w1, mt1, mt0, hSr⟩
        · rw [stp0] at e8
          rcases rw_ with ⟨z7, n20, n24, n25, n26⟩ | ⟨z, -⟩ | ⟨z, -⟩ | ⟨z, zw⟩
          · obtain ⟨μ5, ν5, st5, g5, f5, eo, er⟩ := plain (rec := X12_doAllN N) (lo := p) (hi := q) hB st d300 hQ Q60 (by omega) (by omega) h3 z7 n20 n24 n25 n26
            rw [eo, bV_s, show rI ν5 61 0 (78 + 9 * s + 8) = nI (s + 1) from (f5.1 61 0 _ (Or.inr (Or.inl (by omega))) (by decide) (by decide) (Or.inl (by decide))).trans e8]
            exact Res_then (T0 := 1) (c1 := 0) (d0 := d + 1) (by omega) (by omega) g5 f5 (fun t ht => er t (by omega)) (Res_w (ih N dd (s + 1) e (p + 1) q fu μ5 ν5 (d + 1) hN (by omega) (by omega) e30 hq ((g5.1 9 0 nL_9 2).1.trans hQ) (Seg_c (kq_nL g5.1) (kq_mf3 f5) n _ _ _ _ _ e30 hS) st5) (by omega) (Nat.le_refl q))
          · exact absurd z k7
          · exact absurd z k8
          · have z' := z
            rw [stp0, Nat.add_zero] at z'
            have eo : X12_doOne_ (X12_doAllN N) (nI s) ν = some (wI (m1 ν d) 13 0 41 1) := by
              rw [dO_u (by omega) st.2.1.1.2.1 d300 z', if_pos (by decide +kernel), if_neg (by decide +kernel)]
              unfold X12_doOne_J110
              rw [if_neg (by decide +kernel), if_neg (by decide +kernel)]
            rw [eo, bV_s, dA_over (by omega) rI_s]
            obtain ⟨g1, ⟨⟨c1, c2, c3⟩, c4⟩, g2, g3, g4⟩ := stn
            refine ⟨x1_ μ l d, wI (m1 ν d) 13 0 41 1, d + 1, 1, rfl, by omega, GX_n, mf3_13 mf_n (by omega), Or.inr ⟨⟨LfS_13 g1 (by omega), ⟨⟨c1, ?_, c3⟩, ?_⟩, ?_, rI_s⟩, by omega, fun t ht => ?_⟩⟩
            · rw [rI_j (by decide)]; exact c2
            · rw [c4, rI_j (show (44 : Nat) ≠ 41 by decide)]
            · rw [g2, rI_j (by decide)]; exact g4.symm
            · rw [Rn_blk (by omega) st d300 hQ Q60 (by omega) zw (by simp), rb_u (show rR (x1_ μ l d) 2 l 9 = 1 from st.1.1.2) (show p < 60 by omega) (show rI (x1_ μ l d) 43 0 p = 26 by rw [x1_o (by decide)]; exact zw), if_neg (by decide +kernel), if_neg (by decide +kernel), if_pos rfl, bI_s, x1_o (by decide), hQ]
              exact Rn_Q (by omega) st.1.1.2 (by rw [x1_o (by decide)]; exact hQ) Q60
        · have e8' := e8
          rw [stp0] at e8'
          obtain ⟨N, rfl⟩ : ∃ z, N = z + 1 := ⟨N - 1, by omega⟩
          have recE : ∀ ρ, X12_doAllN (N + 1) (nI (s + 1)) (nI e1) ρ = X12_doAll_L2 (X12_doOne_ (X12_doAllN N)) fuN (nI e1) (nI (s + 1)) ρ := fun _ => rfl
          have body : ∀ μ' ν' d', keep (nL r l) μ μ' → mf3 ν ν' → St B μ' r l ν' d' → Res B r l 0 (p + 1) p1 μ' ν' d' (p + 1) p1 (X12_doAllN (N + 1) (nI (s + 1)) (nI e1) ν') := by
            intro μ' ν' d' a f st'
            rw [recE]
            exact ih N (dd - 1) (s + 1) e1 (p + 1) p1 fuN μ' ν' d' (by omega) (fuN_6 (by omega)) (by omega) (by omega) (by omega) ((a 9 0 nL_9 2).1.trans hQ) (Seg_c (kq_nL a) (kq_mf3 f) n _ _ _ _ _ (by omega) hSb) st'
          have rest : ∀ μ' ν' d', keep (nL r l) μ μ' → mf3 ν ν' → St B μ' r l ν' d' → Res B r l 0 p q μ' ν' d' (p1 + 1) q (X12_doAll_L2 (X12_doOne_ (X12_doAllN (N + 1))) fu (nI e) (rI ν' 61 0 (78 + 9 * s + 8)) ν') := by
            intro μ' ν' d' a f st'
            rw [show rI ν' 61 0 (78 + 9 * s + 8) = nI e1 from (f.1 61 0 _ (Or.inr (Or.inl (by omega))) (by decide) (by decide) (Or.inl (by decide))).trans e8']
            exact Res_w (ih (N + 1) dd e1 e (p1 + 1) q fu μ' ν' d' hN (by omega) (by omega) e30 hq ((a 9 0 nL_9 2).1.trans hQ) (Seg_c (kq_nL a) (kq_mf3 f) n _ _ _ _ _ e30 hSr) st') (by omega) (Nat.le_refl q)
          have kn : keep (nL r l) μ (x1_ μ l d) := (GX_n (lo := 0) (hi := 0)).1
          rcases rw_ with ⟨z, -⟩ | ⟨z, zw⟩ | ⟨z, zw, z45, zc⟩ | ⟨z, -⟩
          · exfalso
            rcases k78 with y | y <;> rw [y] at z <;> exact absurd z (by decide +kernel)
          · have z' := z
            rw [stp0, Nat.add_zero] at z'
            obtain ⟨x, hx, y1, y2⟩ := test2 stn.1 (s := s) (p := p) (by omega) (by omega) (Row_c h3 (kq_nL kn) (kq_mf3 mf_n) (by omega)) (by rw [stp0, m1_c, ← stp0]; exact z)
            have eo : X12_doOne_ (X12_doAllN (N + 1)) (nI s) ν = if x = 0 then some (m1 ν d) else bV (X12_doAllN (N + 1) (nI (s + 1)) (nI e1) (m1 ν d)) (fun μ4 => some μ4) := by
              rw [dO_u (by omega) st.2.1.1.2.1 d300 z', if_pos (by decide +kernel), if_pos rfl, y2, bI_s, m1_c, e8']
              unfold X12_doOne_J110
              rw [if_neg (show ¬ (7 : Int32) = 8 by decide +kernel), if_pos (show (7 : Int32) ≤ 8 by decide +kernel)]
            have er : ∀ t, t ≤ 900000 → Rn l t p μ = if x = 0 then Rn l (t + 1) p1 (x1_ μ l d) else Rn l (t + 1) (p + 1) (x1_ μ l d) := by
              intro t ht
              rw [Rn_blk ht st d300 hQ Q60 (by omega) zw (by simp), rb_u (show rR (x1_ μ l d) 2 l 9 = 1 from st.1.1.2) (show p < 60 by omega) (show rI (x1_ μ l d) 43 0 p = 20 by rw [x1_o (by decide)]; exact zw), if_pos rfl, y1, bI_s]
              by_cases c : x = 0
              · rw [if_pos c, if_pos c, if_pos (show rR (x1_ μ l d) 2 l 9 = 1 from st.1.1.2), bI_s, x1_o (by decide), mt0]
              · rw [if_neg c, if_neg c, bI_s]
            have en : ∀ μ' ν' d' t, keep (nL r l) μ μ' → St B μ' r l ν' d' → t ≤ 900000 → Rn l t p1 μ' = Rn l (t + 1) (p1 + 1) μ' := fun μ' ν' d' t a st' ht => Rn_end ht st'.1.1.2 ((a 9 0 nL_9 2).1.trans hQ) Q60 (by omega) p1a st'.2.2.1 ((a 43 0 rfl p1).1.trans w1) ((a 48 0 rfl p1).1.trans mt1) ((a 43 0 rfl p).1.trans zw)
            rcases hx with rfl | rfl
            · rw [eo, if_pos rfl, bV_s]
              refine Res_then (T0 := 2) (c1 := 0) (d0 := d + 1) (by omega) (by omega) GX_n mf_n (fun t ht => ?_) (rest _ _ _ kn mf_n stn)
              rw [er t (by omega), if_pos rfl, en _ _ _ _ kn stn (by omega)]
            · rw [eo, if_neg n10]
              refine Res_then (T0 := 1) (c1 := 1) (d0 := d + 1) (by omega) (by omega) GX_n mf_n (fun t ht => by rw [er t (by omega), if_neg n10]) (Res_bind (c1 := 0) (c2 := 1) (body _ _ _ kn mf_n stn) (by omega) (by omega) (by omega) (fun μ' ν' d' hd g f' st' e1' => ?_) (fun μ' ν' d' fi f' e1' => ?_))
              · rw [e1', bV_s, bV_s]
                exact Res_then (T0 := 1) (c1 := 0) (Nat.le_refl d') (by omega) GX_r mf3_r (fun t ht => en _ _ _ _ (keep_t kn g.1) st' (by omega)) (rest _ _ _ (keep_t kn g.1) (mf3_t mf_n f') st')
              · rw [e1', bV_s, bV_s]
                exact dA_over (by omega) fi.2.2.2
          · have z' := z
            rw [stp0, Nat.add_zero] at z'
            rw [stp0] at z45 zc
            unfold rg at zc
            obtain ⟨c, ec, c1, c2⟩ := seg_nI (a := rI ν 61 0 (78 + 9 * s + 1)) (n := 100) (by omega) (by omega) (by omega)
            obtain ⟨k, rfl⟩ : ∃ k, c = k + 1 := ⟨c - 1, by omega⟩
            have eo : X12_doOne_ (X12_doAllN (N + 1)) (nI s) ν = X12_doOne_L119 (X12_doAllN (N + 1)) fuN (nI s) (nI (78 + 9 * s)) (nI 0) (m1 ν d) := by
              rw [dO_u (by omega) st.2.1.1.2.1 d300 z', if_pos (by decide +kernel), if_neg (by decide +kernel)]
              unfold X12_doOne_J110
              rw [if_pos rfl, nI_0]
            have er : ∀ t, t ≤ 900000 → Rn l t p μ = Rn l (t + 1) (p + 1) (wI (x1_ μ l d) 23 l p (nI (k + 1))) := by
              intro t ht
              rw [Rn_blk ht st d300 hQ Q60 (by omega) zw (by simp), rb_u (show rR (x1_ μ l d) 2 l 9 = 1 from st.1.1.2) (show p < 60 by omega) (show rI (x1_ μ l d) 43 0 p = 24 by rw [x1_o (by decide)]; exact zw), if_neg (by decide +kernel), if_pos rfl, bI_s, x1_o (by decide), z45, ec]
            have st3 : St B (wI (x1_ μ l d) 23 l p (nI (k + 1))) r l (m1 ν d) (d + 1) := by
              refine ⟨LfS_23 stn.1, ⟨⟨?_, stn.2.1.1.2⟩, ?_⟩, ?_, stn.2.2.2⟩
              · rw [rI_k (show (2 : Nat) ≠ 23 by decide)]; exact stn.2.1.1.1
              · rw [rI_k (show (2 : Nat) ≠ 23 by decide)]; exact stn.2.1.2
              · rw [rI_k (show (2 : Nat) ≠ 23 by decide)]; exact stn.2.2.1
            rw [eo]
            refine Res_then (T0 := 1) (c1 := k + 1) (d0 := d + 1) (by omega) (by omega) (GX_23 GX_n (by omega)) mf_n (fun t ht => er t (by omega)) (Res_bind (c1 := k + 1) (c2 := 0) (lo1 := p) (hi1 := p1 + 1) (loopS (μ0 := μ) (ν0 := ν) (c := k + 1) Q60 (by omega) (by omega) p1a (by omega) hQ w1 mt1 zw ec (by omega) e8' body k 0 fuN _ _ (d + 1) (by omega) (fuN_6 (by omega)) (keep_wI nL_23 kn) mf_n st3 rI_s) (by omega) (Nat.le_refl p) (by omega) (fun μ' ν' d' hd g f' st' e1' => ?_) (fun μ' ν' d' fi f' e1' => ?_))
            · rw [e1', bV_s]
              exact rest _ _ _ (keep_t (keep_wI nL_23 kn) g.1) (mf3_t mf_n f') st'
            · rw [e1', bV_s]
              exact dA_over (by omega) fi.2.2.2
          · exfalso
            rcases k78 with y | y <;> rw [y] at z <;> exact absurd z (by decide +kernel)
end C98h
