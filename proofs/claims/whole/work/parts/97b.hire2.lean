/-! 97b: hire: the two searches side by side -/
section C97b
variable {B : Int} {μ ν : sM} {f : Nat → Int32}
theorem trn_r {t s : Int32} (h1 : rg t (-60) 60) (h2 : rg s 1 40) : rg (trn t s) (-60) 60 := by
  unfold rg at h1 h2 ⊢
  unfold trn
  rw [tmx, tmn, tA (by omega) (by omega), show (60 : Int32).toInt = 60 from rfl, show (-60 : Int32).toInt = -60 from rfl]
  omega
/-- the row behind the winding of the i-th of wn, or of nobody, as far as an HOUR looks -/
def twF (f : Nat → Int32) (i wn : Nat) : Nat → Int32 := if i < wn then upd f 9 (trn (f 9) (f (52 + i))) else f
theorem twF_ag {i wn : Nat} (hi : wn ≤ 6) (a : ag ν f) : ag (tw ν i wn) (twF f i wn) := by
  intro j hj
  unfold tw twF
  by_cases c : i < wn
  · rw [if_pos c, if_pos c]
    by_cases e : j = 9
    · rw [e, rI_s, upd_s, a 9 (by omega), a (52 + i) (by omega)]
    · rw [rI_j e, upd_n e, a j hj]
  · rw [if_neg c, if_neg c, a j hj]
theorem twF_ok {i wn : Nat} (ok : OkR B f) (hw : (f 2).toInt = wn) : OkR B (twF f i wn) := by
  unfold twF
  by_cases c : i < wn
  · rw [if_pos c]
    exact OkR_u ok (Or.inr (Or.inr (Or.inr (Or.inr (Or.inr (Or.inl ⟨rfl, trn_r ok.2.1.2.2.2.2.2.2 (ok.2.2.2.2.2 i (by omega)).1⟩))))))
  · rw [if_neg c]
    exact ok
theorem twF_o {i wn j : Nat} (h : j ≠ 9) : twF f i wn j = f j := by
  unfold twF
  by_cases c : i < wn
  · rw [if_pos c, upd_n h]
  · rw [if_neg c]
/-- the search can find nothing better -/
def noP (ν : sM) (d : Nat) (m : Int) (rem w : Int32) : Prop := (0 ≤ (rI ν 13 0 33).toInt ∧ (rI ν 13 0 33).toInt ≤ w.toInt) ∨ 4 * d * m < rem.toInt
def unch (ν ν' : sM) : Prop := rI ν' 13 0 33 = rI ν 13 0 33 ∧ ∀ j, rI ν' 69 0 j = rI ν 69 0 j
theorem rem_s {rem g : Int32} (h1 : -2000 ≤ rem.toInt ∧ rem.toInt ≤ 999) (h2 : 0 ≤ g.toInt ∧ g.toInt ≤ 24) : (rem - g).toInt = rem.toInt - g.toInt := tS (by omega) (by omega)
theorem neL {hands v d n : Nat} (hv : v ≤ 3) (hB : 0 ≤ B ∧ B ≤ 900000000) (rem w : Int32) (ok : OkR B f) {wn : Nat} (hw : f 2 = nI wn) (w6 : wn ≤ 6) (h6 : (f 6).toInt + 4 * (d + 1) ≤ 10100) (hrem : -24 * (v : Int) ≤ rem.toInt ∧ rem.toInt ≤ 999) (hww : 0 ≤ w.toInt ∧ w.toInt ≤ 99 * v)
    (IH : ∀ (f : Nat → Int32) (ν : sM) (rem w : Int32), OkR B f → ag ν f → (f 6).toInt + 4 * d ≤ 10100 → (-24 * ((v + 1 : Nat) : Int) ≤ rem.toInt ∧ rem.toInt ≤ 999) → (0 ≤ w.toInt ∧ w.toInt ≤ 99 * ((v + 1 : Nat) : Int)) → noP ν d (f 1).toInt rem w → ∃ ν', X12_hiresN n (nI (v + 1)) (nI hands) rem w ν = some ν' ∧ mH (v + 1) ν ν' ∧ unch ν ν') :
    ∀ (k i fu : Nat) (ν : sM), i + k = wn + 1 → k < fu → ag ν f → svd v ν → noP ν (d + 1) (f 1).toInt rem w → ∃ ν', X12_hires_L70 (X12_hiresN n) fu (nI v) (nI hands) rem w (nI i) ν = some ν' ∧ mH v ν ν' ∧ unch ν ν'
  | 0, i, fu + 1, ν, h, _, a, sv, hn => by
    refine ⟨ν, ?_, mH_r v ν, rfl, fun _ => rfl⟩
    unfold X12_hires_L70
    rw [a 2 (by omega), hw, if_pos (nI_lt (by omega) (by omega))]
  | k + 1, i, fu + 1, ν, h, hf, a, sv, hn => by
    have tw2 : (f 2).toInt = wn := by rw [hw, nI_toInt (by omega)]
    have c1 := ok.1.2.1
    unfold rg at c1
    obtain ⟨g, ν2, f', e2, ok', a', s6, fr, gb, k4⟩ := tryM hB (twF_ok (i := i) ok tw2) (twF_ag w6 a) (n := 4) (by omega) (by rw [twF_o (by omega)]; omega)
    rw [twF_o (by omega)] at s6 gb
    have g24 : 0 ≤ g.toInt ∧ g.toInt ≤ 24 := by omega
    have tr := rem_s (rem := rem) (g := g) (by omega) g24
    have e1 : f' 1 = f 1 := by rw [k4 1 (by omega), twF_o (by omega)]
    obtain ⟨w', hw'⟩ : ∃ w', w' = if i < wn then w + rI ν2 61 0 (58 + i) else w := ⟨_, rfl⟩
    have tww : w.toInt ≤ w'.toInt ∧ w'.toInt ≤ w.toInt + 99 := by
      rw [hw']
      by_cases c : i < wn
      · have z := (ok.2.2.2.2.2 i (by omega)).2
        unfold rg at z
        rw [if_pos c, a' (58 + i) (by omega), k4 (58 + i) (by omega), twF_o (by omega), tA (by omega) (by omega)]
        omega
      · rw [if_neg c]
        omega
    obtain ⟨ν4, e4, m4, u4⟩ := IH f' (wI ν2 68 0 v (if i < wn then nI i else 6)) (rem - g) w' ok' (fun j hj => by rw [rI_k (by decide)]; exact a' j hj) (by omega) (by omega) (by omega) (by
      have eb : rI (wI ν2 68 0 v (if i < wn then nI i else 6)) 13 0 33 = rI ν 13 0 33 := by
        rw [rI_k (by decide), fr.1 13 0 33 (Or.inl (by decide)) (by decide) (by decide), tw_o _ _ _ (Or.inl (by decide))]
      unfold noP at hn ⊢
      rw [eb, e1, tr]
      rcases hn with z | z
      · left; omega
      · right
        have q1 : (4 : Int) * ((d + 1 : Nat) : Int) * (f 1).toInt = 4 * d * (f 1).toInt + 4 * (f 1).toInt := by
          rw [Int.natCast_add, Int.mul_add, Int.add_mul]
          simp
        have q2 : ((4 : Nat) : Int) * (f 1).toInt = 4 * (f 1).toInt := rfl
        omega)
    obtain ⟨ν5, e5, m5, s5, b5, l5⟩ := iterH hv sv fr m4
    have u5 : unch ν ν5 := ⟨by
      rw [b5, u4.1, rI_k (by decide), fr.1 13 0 33 (Or.inl (by decide)) (by decide) (by decide), tw_o _ _ _ (Or.inl (by decide))], fun j => by
      rw [l5, u4.2, rI_k (by decide), fr.1 69 0 j (Or.inl (by decide)) (by decide) (by decide), tw_o _ _ _ (Or.inl (by decide))]⟩
    obtain ⟨ν', x1, x2, x3⟩ := neL hv hB rem w ok hw w6 h6 hrem hww IH k (i + 1) fu ν5 (by omega) (by omega) (fun j hj => by rw [m5.1 j (by omega)]; exact a j hj) s5 (by
      unfold noP at hn ⊢
      rw [u5.1]
      exact hn)
    refine ⟨ν', ?_, mH_t m5 x2, x3.1.trans u5.1, fun j => (x3.2 j).trans (u5.2 j)⟩
    rw [iterM (by omega) w6 ((a 2 (by omega)).trans hw) hv e2, ← hw', e4, bV_s, e5, bV_s, x1]
theorem ne (hB : 0 ≤ B ∧ B ≤ 900000000) {hands : Nat} (hh : hands ≤ 4) : ∀ (d n v : Nat) (f : Nat → Int32) (ν : sM) (rem w : Int32), d < n → v + d = hands → OkR B f → ag ν f → (f 6).toInt + 4 * d ≤ 10100 → (-24 * (v : Int) ≤ rem.toInt ∧ rem.toInt ≤ 999) → (0 ≤ w.toInt ∧ w.toInt ≤ 99 * (v : Int)) → noP ν d (f 1).toInt rem w → ∃ ν', X12_hiresN n (nI v) (nI hands) rem w ν = some ν' ∧ mH v ν ν' ∧ unch ν ν'
  | 0, n + 1, v, f, ν, rem, w, _, hv, ok, a, h6, hrem, hww, hn => by
    refine ⟨ν, ?_, mH_r v ν, rfl, fun _ => rfl⟩
    show X12_hires_ (X12_hiresN n) (nI v) (nI hands) rem w ν = some ν
    unfold X12_hires_
    rw [if_pos (by rw [show v = hands by omega])]
    unfold noP at hn
    by_cases c : 0 < rem
    · rw [if_pos c]
    · rw [lt_i, t0] at c
      have z := hn.resolve_right (by simp; omega)
      rw [if_neg (by rw [lt_i, t0]; exact c), if_neg (by rw [lt_i, t0]; omega), if_neg (by rw [lt_i]; omega)]
  | d + 1, n + 1, v, f, ν, rem, w, hdn, hv, ok, a, h6, hrem, hww, hn => by
    obtain ⟨wn, hw, w6, hw'⟩ := rg_nI (b := 6) ok.1.2.2
    have ne' : ¬ nI v = nI hands := fun q => by rw [nI_eq (by omega) (by omega)] at q; omega
    obtain ⟨ν', e1, e2, e3⟩ := neL (hands := hands) (v := v) (d := d) (n := n) (by omega) hB rem w ok hw w6 (by omega) hrem hww (fun f ν rem w ok a h6 hr hw hn => ne hB hh d n (v + 1) f ν rem w (by omega) (by omega) ok a h6 hr hw hn) (wn + 1) 0 fuN (sC ν 67 0 (fun j => if 76 * v ≤ j ∧ j < 76 * v + 76 then rI ν 61 0 (j - 76 * v) else rI ν 67 0 j)) (by omega) (fuN_6 (by omega)) (fun j hj => by rw [sC_k (by decide)]; exact a j hj) (fun j hj => by rw [sC_s, if_pos (by omega), sC_k (by decide), show 76 * v + j - 76 * v = j by omega]) (by
      unfold noP at hn ⊢
      rw [sC_k (by decide)]
      exact hn)
    rw [nI_0] at e1
    refine ⟨ν', ?_, mH_t ⟨fun j hj => by rw [sC_k (by decide)], fun j hj => by rw [sC_s, if_neg (by omega)], fun j hj => by rw [sC_k (by decide)], kM_sC (fun j hq => by exact absurd hq (by rw [show qB 67 0 j = false from rfl]; simp)) kM_r, by rw [sC_k (by decide)]⟩ e2, e3.1.trans (by rw [sC_k (by decide)]), fun j => (e3.2 j).trans (by rw [sC_k (by decide)])⟩
    show X12_hires_ (X12_hiresN n) (nI v) (nI hands) rem w ν = some ν'
    unfold X12_hires_
    rw [if_neg ne', lays_e (by omega), bV_s, e1]
end C97b
