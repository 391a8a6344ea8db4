/-! 98g: WEEKS that are lived: the class's rows beside the reference's blocks -/
section C98g
variable {B : Int} {μ ν : sM} {r l Q : Nat}
abbrev Rn (l t p : Nat) (μ : sM) : Option sM := X1_run_L56 (fuN - t) l (nI p) (nI t) μ
abbrev Rk (l t : Nat) (x : Int32) (μ : sM) : Option sM := X1_run_L56 (fuN - (t + 1)) l x (nI (t + 1)) μ
theorem fu_s {t : Nat} (h : t ≤ 900000) : fuN - t = (fuN - (t + 1)) + 1 := by
  unfold fuN
  omega
theorem Rn_u {t p : Nat} {w : Int32} (ht : t ≤ 900000) (h9 : rR μ 2 l 9 = 1) (hQ : rI μ 9 0 2 = nI Q) (Q60 : Q ≤ 60) (hp : p < Q) (h6 : rI μ 2 l 6 = 0) (hw : rI μ 43 0 p = w) : Rn l t p μ = if w = 25 then bI (X1_rowBehindEnd l (nI p) μ) (Rk l t) else if rI μ 2 l 1 < 300 then bI (X1_isDone l (nI p) (wI μ 2 l 1 (rI μ 2 l 1 + 1))) (fun x3 μ4 => if x3 = 0 then bI (X1_rowBehindStep l (nI p) (wI μ4 2 l 2 (rI μ 2 l 2 + 1))) (Rk l t) else bI (X1_rowBehindStep l (nI p) (wI μ4 2 l 2 (rI μ 2 l 2 + 0))) (Rk l t)) else Rk l t (nI p) (wI μ 2 l 6 1) := by
  unfold Rn
  rw [fu_s ht, X1_run_L56]
  rw [if_neg (show ¬ (1000000 : Int32) ≤ nI t from nI_ge (b := 1000000) (by omega) (by omega)), if_pos h9, hQ, if_neg (nI_ge hp (by omega)), if_pos h6, if_pos h9, if_pos (inb_nI (by omega) (by omega)), ix_nI (by omega), hw]
  unfold X1_run_J155 X1_run_J167
  simp only [nI_1]
theorem Rn_Q {t : Nat} (ht : t ≤ 900000) (h9 : rR μ 2 l 9 = 1) (hQ : rI μ 9 0 2 = nI Q) (Q60 : Q ≤ 60) : Rn l t Q μ = some μ := by
  unfold Rn
  rw [fu_s ht, X1_run_L56]
  rw [if_neg (show ¬ (1000000 : Int32) ≤ nI t from nI_ge (b := 1000000) (by omega) (by omega)), if_pos h9, hQ, if_pos (nI_le (Nat.le_refl Q) (by omega))]
theorem Rn_300 {t p : Nat} {w : Int32} (ht : t + 2 ≤ 900000) (h9 : rR μ 2 l 9 = 1) (hQ : rI μ 9 0 2 = nI Q) (Q60 : Q ≤ 60) (hp : p < Q) (h6 : rI μ 2 l 6 = 0) (hw : rI μ 43 0 p = w) (w25 : w ≠ 25) (h3 : rI μ 2 l 1 = nI 300) : Rn l t p μ = some (wI μ 2 l 6 1) := by
  rw [Rn_u (by omega) h9 hQ Q60 hp h6 hw, if_neg w25, h3, if_neg (by decide +kernel)]
  show X1_run_L56 (fuN - (t + 1)) l (nI p) (nI (t + 1)) (wI μ 2 l 6 1) = _
  rw [fu_s (by omega), X1_run_L56]
  rw [if_neg (show ¬ (1000000 : Int32) ≤ nI (t + 1) from nI_ge (b := 1000000) (by omega) (by omega)), if_pos (show rR (wI μ 2 l 6 1) 2 l 9 = 1 from h9), show rI (wI μ 2 l 6 1) 9 0 2 = nI Q from (rI_k (by decide)).trans hQ, if_neg (nI_ge hp (by omega)), rI_s, if_neg n10]
/-- an end: of a when; of a loop with k rounds behind this one -/
theorem Rn_end {t p p1 : Nat} (ht : t ≤ 900000) (h9 : rR μ 2 l 9 = 1) (hQ : rI μ 9 0 2 = nI Q) (Q60 : Q ≤ 60) (hp : p1 < Q) (hpp : p < p1) (h6 : rI μ 2 l 6 = 0) (hw : rI μ 43 0 p1 = 25) (hm : rI μ 48 0 p1 = nI p) (hv : rI μ 43 0 p = 20) : Rn l t p1 μ = Rn l (t + 1) (p1 + 1) μ := by
  rw [Rn_u ht h9 hQ Q60 hp h6 hw, if_pos rfl]
  unfold X1_rowBehindEnd
  rw [if_pos h9, if_pos (inb_nI (by omega) (by omega)), if_pos h9, ix_nI (by omega), hm, if_pos (inb_nI (by omega) (by omega)), ix_nI (by omega), hv, if_neg (by decide +kernel), bI_s, nI_1]
theorem Rn_endL {t p p1 k : Nat} (ht : t ≤ 900000) (h9 : rR μ 2 l 9 = 1) (hQ : rI μ 9 0 2 = nI Q) (Q60 : Q ≤ 60) (hp : p1 < Q) (hpp : p < p1) (h6 : rI μ 2 l 6 = 0) (hw : rI μ 43 0 p1 = 25) (hm : rI μ 48 0 p1 = nI p) (hv : rI μ 43 0 p = 24) (hk : rI μ 23 l p = nI (k + 1)) (k99 : k ≤ 99) : Rn l t p1 μ = Rn l (t + 1) (if k = 0 then p1 + 1 else p + 1) (wI μ 23 l p (nI k)) := by
  rw [Rn_u ht h9 hQ Q60 hp h6 hw, if_pos rfl]
  have i60 : inb (nI p) 60 = true := inb_nI (by omega) (by omega)
  unfold X1_rowBehindEnd
  rw [if_pos h9, if_pos (inb_nI (by omega) (by omega)), if_pos h9, ix_nI (by omega), hm, if_pos i60, ix_nI (by omega), hv, if_pos rfl, if_pos i60, if_pos i60, if_pos i60, rI_s, hk, nI_pred, nI_1, nI_1]
  by_cases c : k = 0
  · subst c
    rw [if_pos (by decide +kernel), if_pos rfl, bI_s]
  · rw [if_neg (nI_nle (by omega) (by omega)), if_neg c, bI_s]
theorem rb_u {p : Nat} {w : Int32} (h9 : rR μ 2 l 9 = 1) (hp : p < 60) (hw : rI μ 43 0 p = w) : X1_rowBehindStep l (nI p) μ = if w = 20 then bI (X1_holds l (nI p) μ) (fun x ρ => if x = 0 then (if rR ρ 2 l 9 = 1 then some (rI ρ 48 0 p, ρ) else none) else some (nI (p + 1), ρ)) else if w = 24 then some (nI (p + 1), wI μ 23 l p (rI μ 45 0 p)) else if w = 26 then some (rI μ 9 0 2, μ) else some (nI (p + 1), μ) := by
  have i60 : inb (nI p) 60 = true := inb_nI hp (by omega)
  have xp : ix (nI p) = p := ix_nI (by omega)
  unfold X1_rowBehindStep
  rw [xp, hw, nI_1]
  simp only [h9, i60, ↓reduceIte]
/-! the reference's doOne -/
theorem l78 (s : Nat) : (78 : Int32) + 9 * nI s = nI (78 + 9 * s) := by
  rw [show (78 : Int32) = nI 78 from rfl, show (9 : Int32) = nI 9 from rfl, pk_mul, nI_add]
theorem dO_u {rec : Int32 → Int32 → sM → Option sM} {s d : Nat} {k : Int32} (hs : s < 30) (hd : rI ν 13 0 43 = nI d) (d3 : d < 300) (hk : rI ν 61 0 (78 + 9 * s) = k) : X12_doOne_ rec (nI s) ν = if 7 ≤ k then (if k = 7 then bI (X12_isSo (nI (78 + 9 * s)) (wI ν 13 0 43 (nI (d + 1)))) (fun x ρ => if x = 0 then X12_doOne_J110 rec (nI s) (nI (78 + 9 * s)) k ρ else bV (rec (nI (s + 1)) (rI ρ 61 0 (78 + 9 * s + 8)) ρ) (fun μ4 => some μ4)) else X12_doOne_J110 rec (nI s) (nI (78 + 9 * s)) k (wI ν 13 0 43 (nI (d + 1)))) else bI (X12_does (nI (78 + 9 * s)) (wI ν 13 0 43 (nI (d + 1)))) (fun x ρ => if x = 0 then some (wI ρ 13 0 44 (rI ν 13 0 44 + 1)) else some (wI ρ 13 0 44 (rI ν 13 0 44 + 0))) := by
  have i0 : inb (nI (78 + 9 * s)) 1740 = true := inb_nI (by omega) (by omega)
  have i8 : inb (nI (78 + 9 * s + 8)) 1740 = true := inb_nI (by omega) (by omega)
  have x0 : ix (nI (78 + 9 * s)) = 78 + 9 * s := ix_nI (by omega)
  have x8 : ix (nI (78 + 9 * s + 8)) = 78 + 9 * s + 8 := ix_nI (by omega)
  have e3 : ¬ nI d = 300 := by
    rw [show (300 : Int32) = nI 300 from rfl, nI_eq (by omega) (by omega)]
    omega
  unfold X12_doOne_
  rw [hd, if_neg e3, l78, n8, nI_1, nI_1, x0, x8, hk, if_pos i0]
  simp only [i8, ↓reduceIte]
theorem dO_300 {rec : Int32 → Int32 → sM → Option sM} {s : Nat} (hd : rI ν 13 0 43 = nI 300) : X12_doOne_ rec (nI s) ν = some (wI (wI ν 13 0 41 1) 13 0 48 1) := by
  unfold X12_doOne_
  rw [hd, if_pos (by decide +kernel)]
theorem dA_over {rec : Int32 → sM → Option sM} {fu : Nat} {e s : Int32} (hf : 0 < fu) (h : rI ν 13 0 41 = 1) : X12_doAll_L2 rec fu e s ν = some ν := by
  obtain ⟨f, rfl⟩ : ∃ f, fu = f + 1 := ⟨fu - 1, by omega⟩
  unfold X12_doAll_L2
  by_cases c : e ≤ s
  · rw [if_pos c]
  · rw [if_neg c, h, if_neg n10]
theorem dA_end {rec : Int32 → sM → Option sM} {fu : Nat} {s : Nat} (hf : 0 < fu) (hs : s ≤ 30) : X12_doAll_L2 rec fu (nI s) (nI s) ν = some ν := by
  obtain ⟨f, rfl⟩ : ∃ f, fu = f + 1 := ⟨fu - 1, by omega⟩
  unfold X12_doAll_L2
  rw [if_pos (nI_le (Nat.le_refl s) (by omega))]
theorem dA_u {rec : Int32 → sM → Option sM} {fu : Nat} {e s : Nat} (h : s < e) (he : e ≤ 30) (h0 : rI ν 13 0 41 = 0) : X12_doAll_L2 rec (fu + 1) (nI e) (nI s) ν = bV (rec (nI s) ν) fun ρ => X12_doAll_L2 rec fu (nI e) (rI ρ 61 0 (78 + 9 * s + 8)) ρ := by
  have i8 : inb (nI (78 + 9 * s + 8)) 1740 = true := inb_nI (by omega) (by omega)
  have x8 : ix (nI (78 + 9 * s + 8)) = 78 + 9 * s + 8 := ix_nI (by omega)
  rw [X12_doAll_L2]
  rw [if_neg (nI_ge h (by omega)), if_pos h0, l78, n8, x8]
  simp only [i8, ↓reduceIte]
/-! states -/
def Cn (μ : sM) (l : Nat) (ν : sM) (d : Nat) : Prop := (rI μ 2 l 1 = nI d ∧ rI ν 13 0 43 = nI d ∧ d ≤ 300) ∧ rI μ 2 l 2 = rI ν 13 0 44
def St (B : Int) (μ : sM) (r l : Nat) (ν : sM) (d : Nat) : Prop := LfS B μ r l ν ∧ Cn μ l ν d ∧ rI μ 2 l 6 = 0 ∧ rI ν 13 0 41 = 0 ∧ rI ν 13 0 48 = 0
def Fi (B : Int) (μ : sM) (r l : Nat) (ν : sM) (d : Nat) : Prop := LfS B μ r l ν ∧ Cn μ l ν d ∧ rI μ 2 l 6 = rI ν 13 0 48 ∧ rI ν 13 0 41 = 1
def GX (r l lo hi : Nat) (μ μ' : sM) : Prop := keep (nL r l) μ μ' ∧ rI μ' 2 l 0 = rI μ 2 l 0 ∧ ∀ j, j < lo ∨ hi ≤ j → rI μ' 23 l j = rI μ 23 l j
theorem GX_r {lo hi : Nat} : GX r l lo hi μ μ := ⟨keep_r, rfl, fun _ _ => rfl⟩
theorem GX_t {lo hi : Nat} {μ1 μ2 : sM} (h : GX r l lo hi μ μ1) (h' : GX r l lo hi μ1 μ2) : GX r l lo hi μ μ2 := ⟨keep_t h.1 h'.1, h'.2.1.trans h.2.1, fun j hj => (h'.2.2 j hj).trans (h.2.2 j hj)⟩
theorem GX_m {lo hi lo' hi' : Nat} {μ1 : sM} (h : GX r l lo hi μ μ1) (a : lo' ≤ lo) (b : hi ≤ hi') : GX r l lo' hi' μ μ1 := ⟨h.1, h.2.1, fun j hj => h.2.2 j (by omega)⟩
theorem GX_2 {lo hi : Nat} {μ1 : sM} {j : Nat} {v : Int32} (h : GX r l lo hi μ μ1) (hj : j ≠ 0) : GX r l lo hi μ (wI μ1 2 l j v) := ⟨keep_wI nL_2 h.1, by rw [rI_j (fun q => hj q.symm)]; exact h.2.1, fun c hc => by rw [rI_k (by decide)]; exact h.2.2 c hc⟩
theorem GX_23 {lo hi : Nat} {μ1 : sM} {j : Nat} {v : Int32} (h : GX r l lo hi μ μ1) (hj : lo ≤ j ∧ j < hi) : GX r l lo hi μ (wI μ1 23 l j v) := ⟨keep_wI nL_23 h.1, by rw [rI_k (by decide)]; exact h.2.1, fun c hc => by rw [rI_j (by omega)]; exact h.2.2 c hc⟩
theorem GX_F {lo hi : Nat} {μ1 : sM} (h : FrX r l μ μ1) : GX r l lo hi μ μ1 := ⟨h.1, h.2.1 0 (Or.inl rfl), fun j _ => h.2.2 j⟩
theorem LfS_2 {j : Nat} {v : Int32} (h : LfS B μ r l ν) (hj : j = 1 ∨ j = 2 ∨ j = 6) : LfS B (wI μ 2 l j v) r l ν := by
  obtain ⟨h1, h2, h3, ⟨a1, a2, a3, a4⟩, h5⟩ := h
  exact ⟨h1, Rv_2 h2, h3, ⟨by rw [rI_j (by omega)]; exact a1, by rw [rI_j (by omega)]; exact a2, by rw [rI_j (by omega)]; exact a3, by rw [rI_j (by omega)]; exact a4⟩, h5⟩
theorem LfS_23 {j : Nat} {v : Int32} (h : LfS B μ r l ν) : LfS B (wI μ 23 l j v) r l ν := by
  obtain ⟨h1, h2, h3, ⟨a1, a2, a3, a4⟩, h5⟩ := h
  exact ⟨h1, Rv_23 h2, h3, ⟨by rw [rI_k (by decide)]; exact a1, by rw [rI_k (by decide)]; exact a2, by rw [rI_k (by decide)]; exact a3, by rw [rI_k (by decide)]; exact a4⟩, h5⟩
theorem LfS_13 {j : Nat} {v : Int32} (h : LfS B μ r l ν) (hj : j = 41 ∨ j = 43 ∨ j = 44 ∨ j = 48) : LfS B μ r l (wI ν 13 0 j v) := by
  obtain ⟨h1, h2, h3, ⟨a1, a2, a3, a4⟩, h5⟩ := h
  exact ⟨h1, Rv_13 h2, by rw [rI_k (by decide)]; exact h3, ⟨by rw [rI_j (by omega)]; exact a1, by rw [rI_j (by omega)]; exact a2, by rw [rI_j (by omega)]; exact a3, by rw [rI_j (by omega)]; exact a4⟩, by rw [rI_j (by omega)]; exact h5⟩
/-- the WEEKS are not touched -/
theorem kq_nL {μ1 : sM} (h : keep (nL r l) μ μ1) : kq (qW 0 0) μ μ1 := by
  refine kq_k h (fun k i j hq => ?_)
  unfold qW at hq
  simp only [Bool.or_eq_true, Bool.and_eq_true, beq_iff_eq, Nat.ble_eq] at hq
  have e : rk2 k = false ∧ k ≠ 2 ∧ k ≠ 23 := by
    refine ⟨?_, by omega, by omega⟩
    apply Bool.eq_false_iff.mpr
    intro z
    unfold rk2 at z
    simp only [Bool.or_eq_true, Bool.and_eq_true, beq_iff_eq, Nat.ble_eq] at z
    omega
  unfold nL
  simp [e.1, e.2.1, e.2.2]
theorem kq_mf3 {ν1 : sM} (h : mf3 ν ν1) : kq (qW 0 0) ν ν1 := by
  intro k i j hq
  refine ⟨?_, h.2.1 k i j⟩
  by_cases z : k = 61 ∧ i = 0 ∧ j < 3
  · rw [z.1, z.2.1]
    exact h.2.2 j (by omega)
  · unfold qW at hq
    simp only [Bool.or_eq_true, Bool.and_eq_true, beq_iff_eq, Nat.ble_eq] at hq
    exact h.1 k i j (by omega) (by omega) (by omega) (by omega)
theorem nL_9 {i : Nat} : nL r l 9 i = true := rfl
/-- from row p to row q, or to the end -/
def Res (B : Int) (r l : Nat) (c lo hi : Nat) (μ ν : sM) (d p q : Nat) (M : Option sM) : Prop := ∃ μ' ν' d' T, M = some ν' ∧ d ≤ d' ∧ GX r l lo hi μ μ' ∧ mf3 ν ν' ∧ ((St B μ' r l ν' d' ∧ T ≤ 101 * (d' - d) + c ∧ ∀ t, t + T ≤ 900000 → Rn l t p μ = Rn l (t + T) q μ') ∨ (Fi B μ' r l ν' d' ∧ T ≤ 101 * (d' - d) + c + 101 ∧ ∀ t, t + T ≤ 900000 → Rn l t p μ = some μ'))
theorem Res_then {c c1 lo hi d d0 p p0 q T0 : Nat} {μ0 ν0 : sM} {M : Option sM} (hd : d ≤ d0) (hT : T0 + c1 ≤ 101 * (d0 - d) + c) (g : GX r l lo hi μ μ0) (f : mf3 ν ν0) (e : ∀ t, t + T0 ≤ 900000 → Rn l t p μ = Rn l (t + T0) p0 μ0) (h : Res B r l c1 lo hi μ0 ν0 d0 p0 q M) : Res B r l c lo hi μ ν d p q M := by
  obtain ⟨μ', ν', d', T, e1, h1, g1, f1, h2⟩ := h
  refine ⟨μ', ν', d', T0 + T, e1, by omega, GX_t g g1, mf3_t f f1, ?_⟩
  rcases h2 with ⟨s, t1, t2⟩ | ⟨s, t1, t2⟩
  · refine Or.inl ⟨s, by omega, fun t ht => ?_⟩
    rw [e t (by omega), t2 (t + T0) (by omega), Nat.add_assoc]
  · refine Or.inr ⟨s, by omega, fun t ht => ?_⟩
    rw [e t (by omega), t2 (t + T0) (by omega)]
theorem Res_bind {c c1 c2 lo hi lo1 hi1 d p q1 q : Nat} {M1 M : Option sM} (h : Res B r l c1 lo1 hi1 μ ν d p q1 M1) (hc : c1 + c2 ≤ c) (hl : lo ≤ lo1) (hh : hi1 ≤ hi) (hA : ∀ μ' ν' d', d ≤ d' → GX r l lo1 hi1 μ μ' → mf3 ν ν' → St B μ' r l ν' d' → M1 = some ν' → Res B r l c2 lo hi μ' ν' d' q1 q M) (hB : ∀ μ' ν' d', Fi B μ' r l ν' d' → mf3 ν ν' → M1 = some ν' → M = some ν') : Res B r l c lo hi μ ν d p q M := by
  obtain ⟨μ', ν', d', T, e1, h1, g1, f1, h2⟩ := h
  rcases h2 with ⟨s, t1, t2⟩ | ⟨s, t1, t2⟩
  · exact Res_then h1 (by omega) (GX_m g1 hl hh) f1 t2 (hA μ' ν' d' h1 g1 f1 s e1)
  · exact ⟨μ', ν', d', T, hB μ' ν' d' s f1 e1, h1, GX_m g1 hl hh, f1, Or.inr ⟨s, by omega, t2⟩⟩
theorem Res_M {c lo hi d p q : Nat} {M M' : Option sM} (h : Res B r l c lo hi μ ν d p q M) (e : M' = M) : Res B r l c lo hi μ ν d p q M' := by
  rw [e]; exact h
end C98g
