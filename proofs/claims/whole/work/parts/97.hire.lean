/-! 97: hire, hireAt: the reference's search -/
section C97
variable {B : Int} {μ ν : sM} {f : Nat → Int32}
/-- a river of the class made from a row alone -/
def V (f : Nat → Int32) : sM := (fun k _ j => if k = 4 then f 0 else if k = 3 then f 1 else if k = 11 then f 2 else if k = 5 then (if j = 0 then f 9 else if j = 1 then f 3 else if j = 2 then f 4 else if j = 3 then f 5 else if j = 4 then f 6 else if j = 5 then f 8 else f 7) else if k = 29 then f (16 + j) else if k = 30 then f (22 + j) else if k = 31 then f (28 + j) else if k = 25 then f (34 + j) else if k = 26 then f (40 + j) else if k = 27 then f (46 + j) else if k = 51 then f (52 + j) else if k = 52 then f (58 + j) else if k = 53 then f (64 + j) else f (70 + j), fun _ _ j => (f (10 + j)).toInt64, fun _ _ _ => 0)
theorem V_r : Riv (V f) 0 f := ⟨⟨rfl, rfl, rfl, rfl, rfl, rfl, rfl, rfl, rfl, rfl⟩, fun _ _ => rfl, fun _ _ => ⟨rfl, rfl, rfl⟩, fun _ _ => ⟨rfl, rfl, rfl⟩, fun _ _ => ⟨rfl, rfl, rfl, rfl⟩⟩
theorem tryM (hB : 0 ≤ B ∧ B ≤ 900000000) (ok : OkR B f) (a : ag ν f) {n : Nat} (hn : n ≤ 1000) (h6 : (f 6).toInt + n ≤ 10600) : ∃ g ν' f', HM n ν = some (g, ν') ∧ OkR B f' ∧ ag ν' f' ∧ (f' 6).toInt = (f 6).toInt + n ∧ mfr ν ν' ∧ (0 ≤ g.toInt ∧ g.toInt ≤ n * (f 1).toInt) ∧ (∀ j, j < 6 ∨ j = 7 ∨ (16 ≤ j ∧ j < 28) ∨ (34 ≤ j ∧ j < 46) ∨ 52 ≤ j → f' j = f j) := by
  obtain ⟨g, μ', ν', f', e1, e2, R1, ok1, a1, s6, fr, gb, k1, hi, -⟩ := tryN hB V_r ok a hn h6
  exact ⟨g, ν', f', e2, ok1, a1, s6, fr, gb, k1⟩
/-- one's turns -/
def trn (t s : Int32) : Int32 := imx (-60) (imn 60 (t + s))
/-- the memory behind the winding of the i-th of wn, or of nobody -/
def tw (ν : sM) (i wn : Nat) : sM := if i < wn then wI ν 61 0 9 (trn (rI ν 61 0 9) (rI ν 61 0 (52 + i))) else ν
theorem hires_h {rec : Int32 → Int32 → Int32 → Int32 → sM → Option sM} {k70 : Int32 → Int32 → Int32 → Int32 → Int32 → sM → Option sM} {v1 v2 v3 v4 v5 v6 : Int32} : ∀ (k i fu : Nat) (v7 : Int32) (ν : sM) {g : Int32} {ν' : sM}, i + k = 4 → k < fu → HM k ν = some (g, ν') →
    X12_hires_L124 rec k70 fu v1 v2 v3 v4 v5 v6 v7 (nI i) ν = if v6 = 0 then X12_hires_J162 rec k70 v1 v2 v3 v4 v5 v6 (v7 + g) v5 v1 ν' else X12_hires_J162 rec k70 v1 v2 v3 v4 v5 v6 (v7 + g) 6 v1 ν'
  | 0, i, fu + 1, v7, ν, g, ν', h, _, e => by
    cases e
    unfold X12_hires_L124
    rw [if_pos (show (4 : Int32) ≤ nI i from nI_le (a := 4) (by omega) (by omega)), Int32.add_zero]
  | k + 1, i, fu + 1, v7, ν, g, ν', h, hf, e => by
    unfold HM at e
    obtain ⟨x, μ1, e1, e⟩ := bI_inv e
    obtain ⟨y, μ2, e2, e⟩ := bI_inv e
    cases e
    rw [X12_hires_L124]
    rw [if_neg (show ¬ (4 : Int32) ≤ nI i from nI_ge (b := 4) (by omega) (by omega)), e1, bI_s, nI_1, hires_h k (i + 1) fu _ _ (by omega) (by omega) e2, Int32.add_assoc]
theorem iterM {rec : Int32 → Int32 → Int32 → Int32 → sM → Option sM} {v1 hands i wn fu : Nat} {rem w g : Int32} {ν2 : sM} (hi : i ≤ wn) (w6 : wn ≤ 6) (hc : rI ν 61 0 2 = nI wn) (h1 : v1 ≤ 3) (e : HM 4 (tw ν i wn) = some (g, ν2)) :
    X12_hires_L70 rec (fu + 1) (nI v1) (nI hands) rem w (nI i) ν = bV (rec (nI (v1 + 1)) (nI hands) (rem - g) (if i < wn then w + rI ν2 61 0 (58 + i) else w) (wI ν2 68 0 v1 (if i < wn then nI i else 6))) fun ν4 => bV (X12_takesTurn (nI v1) ν4) fun ν5 => X12_hires_L70 rec fu (nI v1) (nI hands) rem w (nI (i + 1)) ν5 := by
  have i4 : inb (nI v1) 4 = true := inb_nI (by omega) (by omega)
  have key : ∀ (s : Int32) (ν1 : sM), HM 4 ν1 = some (g, ν2) → X12_hires_J118 rec (X12_hires_L70 rec fu) (nI v1) (nI hands) rem w (nI i) s ν1 = if s = 0 then X12_hires_J162 rec (X12_hires_L70 rec fu) (nI v1) (nI hands) rem w (nI i) s g (nI i) (nI v1) ν2 else X12_hires_J162 rec (X12_hires_L70 rec fu) (nI v1) (nI hands) rem w (nI i) s g 6 (nI v1) ν2 := by
    intro s ν1 e
    unfold X12_hires_J118
    have z := hires_h (rec := rec) (k70 := X12_hires_L70 rec fu) (v1 := nI v1) (v2 := nI hands) (v3 := rem) (v4 := w) (v5 := nI i) (v6 := s) 4 0 fuN 0 ν1 (by omega) (fuN_6 (by omega)) e
    rw [nI_0, Int32.zero_add] at z
    exact z
  rw [X12_hires_L70]
  rw [hc, if_neg (nI_nlt (by omega) (by omega))]
  by_cases c : i < wn
  · have ne : ¬ nI i = nI wn := fun q => by rw [nI_eq (by omega) (by omega)] at q; omega
    unfold tw at e
    rw [if_pos c] at e
    rw [if_neg ne, if_pos c, if_pos c]
    unfold X12_hires_J97 X12_turnsBy
    rw [if_pos rfl, l52, if_pos (inb_nI (by omega) (by omega)), ix_nI (by omega), bV_s]
    have z := key 0 _ e
    unfold trn at z
    rw [z, if_pos rfl]
    unfold X12_hires_J162 X12_hires_J195
    rw [if_pos i4, if_pos rfl, l58, if_pos (inb_nI (by omega) (by omega)), ix_nI (by omega), ix_nI (by omega), nI_1]
    rw [nI_1]
  · have eq : nI i = nI wn := by rw [show i = wn by omega]
    unfold tw at e
    rw [if_neg c] at e
    rw [if_pos eq, if_neg c, if_neg c]
    unfold X12_hires_J97
    rw [if_neg n10, key 1 _ e, if_neg n10]
    unfold X12_hires_J162 X12_hires_J195
    rw [if_pos i4, if_neg n10, ix_nI (by omega), nI_1, nI_1]
/-! rows laid by and taken -/
theorem l76 (t j : Nat) : (76 : Int32) * nI t + nI j = nI (76 * t + j) := by
  rw [show (76 : Int32) = nI 76 from rfl, pk_mul, nI_add]
theorem lays_l {v1 : Nat} (h1 : v1 ≤ 4) : ∀ (k i fu : Nat) (ν : sM), i + k = 76 → k < fu → X12_laysTurn_L2 fu (nI v1) (nI i) ν = some (sC ν 67 0 (fun j => if 76 * v1 + i ≤ j ∧ j < 76 * v1 + 76 then rI ν 61 0 (j - 76 * v1) else rI ν 67 0 j))
  | 0, i, fu + 1, μ, h, _ => by
    unfold X12_laysTurn_L2
    rw [if_pos (show (76 : Int32) ≤ nI i from nI_le (a := 76) (by omega) (by omega)), sC_id]
    intro j
    rw [if_neg (by omega)]
  | k + 1, i, fu + 1, μ, h, hf => by
    unfold X12_laysTurn_L2
    rw [if_neg (show ¬ (76 : Int32) ≤ nI i from nI_ge (b := 76) (by omega) (by omega)), if_pos (inb_nI (by omega) (by omega)), l76, if_pos (inb_nI (by omega) (by omega)), ix_nI (by omega), ix_nI (by omega), nI_1, lays_l h1 k (i + 1) fu _ (by omega) (by omega), sC_wI]
    refine congrArg some (sC_c _ _ _ (fun j => ?_))
    rw [rI_k (by decide)]
    by_cases e : j = 76 * v1 + i
    · subst e
      rw [if_neg (by omega), if_pos (by omega), rI_s, show 76 * v1 + i - 76 * v1 = i by omega]
    · rw [rI_j e]
      by_cases q : 76 * v1 + (i + 1) ≤ j ∧ j < 76 * v1 + 76
      · rw [if_pos q, if_pos (by omega)]
      · rw [if_neg q, if_neg (by omega)]
theorem lays_e {v1 : Nat} (h1 : v1 ≤ 4) (ν : sM) : X12_laysTurn (nI v1) ν = some (sC ν 67 0 (fun j => if 76 * v1 ≤ j ∧ j < 76 * v1 + 76 then rI ν 61 0 (j - 76 * v1) else rI ν 67 0 j)) := by
  unfold X12_laysTurn
  have h := lays_l h1 76 0 fuN ν (by omega) (fuN_6 (by omega))
  rw [nI_0, Nat.add_zero] at h
  exact h
theorem takes_l {v1 : Nat} (h1 : v1 ≤ 4) : ∀ (k i fu : Nat) (ν : sM), i + k = 76 → k < fu → X12_takesTurn_L2 fu (nI v1) (nI i) ν = some (sC ν 61 0 (fun j => if i ≤ j ∧ j < 76 then rI ν 67 0 (76 * v1 + j) else rI ν 61 0 j))
  | 0, i, fu + 1, μ, h, _ => by
    unfold X12_takesTurn_L2
    rw [if_pos (show (76 : Int32) ≤ nI i from nI_le (a := 76) (by omega) (by omega)), sC_id]
    intro j
    rw [if_neg (by omega)]
  | k + 1, i, fu + 1, μ, h, hf => by
    unfold X12_takesTurn_L2
    rw [if_neg (show ¬ (76 : Int32) ≤ nI i from nI_ge (b := 76) (by omega) (by omega)), l76, if_pos (inb_nI (by omega) (by omega)), if_pos (inb_nI (by omega) (by omega)), ix_nI (by omega), ix_nI (by omega), nI_1, takes_l h1 k (i + 1) fu _ (by omega) (by omega), sC_wI]
    refine congrArg some (sC_c _ _ _ (fun j => ?_))
    rw [rI_k (by decide)]
    by_cases e : j = i
    · subst e
      rw [if_neg (by omega), if_pos (by omega), rI_s]
    · rw [rI_j e]
      by_cases q : i + 1 ≤ j ∧ j < 76
      · rw [if_pos q, if_pos (by omega)]
      · rw [if_neg q, if_neg (by omega)]
theorem takes_e {v1 : Nat} (h1 : v1 ≤ 4) (ν : sM) : X12_takesTurn (nI v1) ν = some (sC ν 61 0 (fun j => if j < 76 then rI ν 67 0 (76 * v1 + j) else rI ν 61 0 j)) := by
  unfold X12_takesTurn
  have h := takes_l h1 76 0 fuN ν (by omega) (fuN_6 (by omega))
  rw [nI_0] at h
  rw [h]
  exact congrArg some (sC_c _ _ _ (fun j => by simp only [Nat.zero_le, true_and]))
/-- what a search from depth v on leaves as it was -/
def mH (v : Nat) (ν ν' : sM) : Prop := (∀ j, j < 76 → rI ν' 61 0 j = rI ν 61 0 j) ∧ (∀ j, j < 76 * v → rI ν' 67 0 j = rI ν 67 0 j) ∧ (∀ j, j < v → rI ν' 68 0 j = rI ν 68 0 j) ∧ kM ν ν' ∧ rI ν' 13 0 0 = rI ν 13 0 0
theorem mH_r (v : Nat) (ν : sM) : mH v ν ν := ⟨fun _ _ => rfl, fun _ _ => rfl, fun _ _ => rfl, kM_r, rfl⟩
theorem mH_t {v : Nat} {a b c : sM} (h : mH v a b) (h' : mH v b c) : mH v a c := ⟨fun j hj => (h'.1 j hj).trans (h.1 j hj), fun j hj => (h'.2.1 j hj).trans (h.2.1 j hj), fun j hj => (h'.2.2.1 j hj).trans (h.2.2.1 j hj), kM_t h.2.2.2.1 h'.2.2.2.1, h'.2.2.2.2.trans h.2.2.2.2⟩
/-- the row is laid by at v -/
def svd (v : Nat) (ν : sM) : Prop := ∀ j, j < 76 → rI ν 67 0 (76 * v + j) = rI ν 61 0 j
theorem tw_o (ν : sM) (i wn : Nat) {k b j : Nat} (h : k ≠ 61 ∨ j ≠ 9) : rI (tw ν i wn) k b j = rI ν k b j := by
  unfold tw
  by_cases c : i < wn
  · rw [if_pos c, rI_wI, if_neg (by omega)]
  · rw [if_neg c]
theorem tw_l (ν : sM) (i wn : Nat) {k b j : Nat} : rL (tw ν i wn) k b j = rL ν k b j := by
  unfold tw
  by_cases c : i < wn
  · rw [if_pos c, rL_wI]
  · rw [if_neg c]
theorem kM_tw (ν : sM) (i wn : Nat) : kM ν (tw ν i wn) := by
  unfold tw
  by_cases c : i < wn
  · rw [if_pos c]
    exact kM_wI (Or.inr ⟨rfl, rfl, by omega⟩) kM_r
  · rw [if_neg c]
    exact kM_r
/-- one round of the search's loop leaves the row as it was -/
theorem iterH {v i wn : Nat} {x : Int32} {ν2 ν4 : sM} (hv : v ≤ 3) (sv : svd v ν) (fr : mfr (tw ν i wn) ν2) (h4 : mH (v + 1) (wI ν2 68 0 v x) ν4) : ∃ ν5, X12_takesTurn (nI v) ν4 = some ν5 ∧ mH v ν ν5 ∧ svd v ν5 ∧ rI ν5 13 0 33 = rI ν4 13 0 33 ∧ ∀ j, rI ν5 69 0 j = rI ν4 69 0 j := by
  have e67 : ∀ j, j < 76 * (v + 1) → rI ν4 67 0 j = rI ν 67 0 j := fun j hj => by
    rw [h4.2.1 j hj, rI_k (by decide), fr.1 67 0 j (Or.inl (by decide)) (by decide) (by decide), tw_o _ _ _ (Or.inl (by decide))]
  refine ⟨_, takes_e (by omega) ν4, ⟨fun j hj => ?_, fun j hj => ?_, fun j hj => ?_, ?_, ?_⟩, fun j hj => ?_, ?_, fun j => ?_⟩
  · rw [sC_s, if_pos hj, e67 _ (by omega), sv j hj]
  · rw [sC_k (by decide), e67 j (by omega)]
  · rw [sC_k (by decide), h4.2.2.1 j (by omega), rI_j (by omega), fr.1 68 0 j (Or.inl (by decide)) (by decide) (by decide), tw_o _ _ _ (Or.inl (by decide))]
  · have k1 : kM ν ν4 := by
      exact kM_t (kM_t (kM_t (kM_tw ν _ wn) (kM_m fr)) (kM_wI (Or.inl rfl) kM_r)) h4.2.2.2.1
    refine kM_sC (fun j hq hb => ?_) k1
    rw [if_neg (by omega)]
    exact k1.2 61 0 j hq hb
  · rw [sC_k (by decide), h4.2.2.2.2, rI_k (by decide), fr.1 13 0 0 (Or.inl (by decide)) (by decide) (by decide), tw_o _ _ _ (Or.inl (by decide))]
  · rw [sC_k (by decide), e67 _ (by omega), sv j hj, sC_s, if_pos hj, e67 _ (by omega), sv j hj]
  · rw [sC_k (by decide)]
  · rw [sC_k (by decide)]
end C97
