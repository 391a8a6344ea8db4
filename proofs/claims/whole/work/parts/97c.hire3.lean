/-! 97c: hire: both searches -/
section C97c
variable {B : Int} {μ ν : sM} {f : Nat → Int32}
/-- all but what the class's search from depth v on changes -/
def nH (v k i : Nat) : Bool := !(k == 1 || (k == 21 || (k == 22 || (rk k && Nat.ble (5 + v) i))))
theorem nH_i {v k i : Nat} (hk : k ≠ 1 ∧ k ≠ 21 ∧ k ≠ 22) (h : i < 5 + v) : nH v k i = true := by
  unfold nH
  have e : Nat.ble (5 + v) i = false := by
    apply Bool.eq_false_iff.mpr
    intro x
    rw [Nat.ble_eq] at x
    omega
  rw [e]
  simp [hk]
theorem nH_r {v k i : Nat} (hk : rk k = true) (h : i < 5 + v) : nH v k i = true := nH_i ⟨fun q => (by rw [q] at hk; cases hk), fun q => (by rw [q] at hk; cases hk), fun q => (by rw [q] at hk; cases hk)⟩ h
theorem nH_R {v : Nat} : ∀ k i, nH v k i = true → nR (5 + v) k i = true := by
  intro k i h
  unfold nH at h
  unfold nR
  by_cases hk : rk k = true
  · by_cases hi : i = 5 + v
    · subst hi
      rw [hk, Nat.ble_eq_true_of_le (Nat.le_refl (5 + v))] at h
      simp at h
    · simp [hi]
  · simp [hk]
theorem nH_Q {v : Nat} : ∀ k i, nH v k i = true → nQ (5 + v) k i = true := fun k i h => nR_nQ k i (nH_R k i h)
theorem nH_s {v : Nat} : ∀ k i, nH v k i = true → nH (v + 1) k i = true := by
  intro k i h
  unfold nH at h ⊢
  simp only [Bool.not_eq_true', Bool.or_eq_false_iff, Bool.and_eq_false_iff] at h ⊢
  refine ⟨h.1, h.2.1, h.2.2.1, h.2.2.2.elim Or.inl (fun z => Or.inr ?_)⟩
  apply Bool.eq_false_iff.mpr
  intro x
  rw [Nat.ble_eq] at x
  rw [Nat.ble_eq_true_of_le (show 5 + v ≤ i by omega)] at z
  cases z
def kH (v : Nat) (μ μ' : sM) : Prop := keep (nH v) μ μ' ∧ rI μ' 1 0 6 = rI μ 1 0 6 ∧ rI μ' 1 0 7 = rI μ 1 0 7 ∧ ∀ j, j < v → rI μ' 22 0 j = rI μ 22 0 j
theorem kH_r (v : Nat) (μ : sM) : kH v μ μ := ⟨keep_r, rfl, rfl, fun _ _ => rfl⟩
theorem kH_t {v : Nat} {a b c : sM} (h : kH v a b) (h' : kH v b c) : kH v a c := ⟨keep_t h.1 h'.1, h'.2.1.trans h.2.1, h'.2.2.1.trans h.2.2.1, fun j hj => (h'.2.2.2 j hj).trans (h.2.2.2 j hj)⟩
/-- the best so far, on both sides -/
def HR (μ ν : sM) (hands : Nat) : Prop := rI μ 1 0 8 = rI ν 13 0 33 ∧ (rI ν 13 0 33 = -1 ∨ (0 ≤ (rI ν 13 0 33).toInt ∧ ∀ j, j < hands → rI μ 21 0 j = rI ν 69 0 j))
theorem kf {r : Nat} {μ μ' : sM} (h : keep (nR r) μ μ') {k : Nat} (hk : rk k = false) (i j : Nat) : rI μ' k i j = rI μ k i j := (h k i (by unfold nR; rw [hk]; rfl) j).1
theorem kg {r : Nat} {μ μ' : sM} (h : keep (nQ r) μ μ') {k : Nat} (hk : rk2 k = false) (i j : Nat) : rI μ' k i j = rI μ k i j := (h k i (by unfold nQ; rw [hk]; rfl) j).1
/-- one round of the class's loop, to the child -/
theorem iterX (hB : 0 ≤ B ∧ B ≤ 900000000) {rec : Int32 → Int32 → Int32 → sM → Option sM} {v i wn fu : Nat} {w gr : Int32} (hv : v ≤ 3) (hi : i ≤ wn) (w6 : wn ≤ 6) (R : Riv μ (4 + v) f) (ok : OkR B f) (a : ag ν f) (hw : f 2 = nI wn) (h6 : (f 6).toInt + 4 ≤ 10100) :
    ∃ g μ3 ν2 f' w', HM 4 (tw ν i wn) = some (g, ν2) ∧ mfr (tw ν i wn) ν2 ∧ Riv μ3 (5 + v) f' ∧ OkR B f' ∧ ag ν2 f' ∧ (f' 6).toInt = (f 6).toInt + 4 ∧ (0 ≤ g.toInt ∧ g.toInt ≤ 24) ∧ (g.toInt ≤ 4 * (f 1).toInt) ∧ f' 1 = f 1 ∧ w' = (if i < wn then w + rI ν2 61 0 (58 + i) else w) ∧ (i < wn → rI ν2 61 0 (58 + i) = f (58 + i) ∧ rg (f (58 + i)) 0 99) ∧ kH v μ μ3 ∧ rI μ3 1 0 8 = rI μ 1 0 8 ∧ (∀ j, rI μ3 21 0 j = rI μ 21 0 j) ∧ rI μ3 22 0 v = (if i < wn then nI i else 6) ∧
      X0_tryHands_L105 rec (fu + 1) (nI v) w gr (4 + v) (nI i) μ = bV (rec (nI (v + 1)) w' (gr + g) μ3) fun μ4 => X0_tryHands_L105 rec fu (nI v) w gr (4 + v) (nI (i + 1)) μ4 := by
  have tw2 : (f 2).toInt = wn := by rw [hw, nI_toInt (by omega)]
  have c1 := ok.1.2.1
  unfold rg at c1
  have i4 : inb (nI v) 4 = true := inb_nI (by omega) (by omega)
  have i5 : inb (nI v) 5 = true := inb_nI (by omega) (by omega)
  have i5' : inb (nI (v + 1)) 5 = true := inb_nI (by omega) (by omega)
  have xv : ix (nI v) = v := ix_nI (by omega)
  have xv' : ix (nI (v + 1)) = v + 1 := ix_nI (by omega)
  obtain ⟨μ1, e1, R1, -⟩ := copyR R ok (a := 4 + (v + 1)) (by omega)
  have k1 := X4_copyFrom_fr (4 + (v + 1)) (4 + v) μ μ1 e1
  have hcnt : rI μ 11 (4 + v) 0 = nI wn := R.1.2.2.1.trans hw
  by_cases c : i < wn
  · obtain ⟨μ2, e2, R2, ok2⟩ := letWind_e (b := 0) R1 ok (p := i) (by omega)
    have k2 := X4_letWind_fq (4 + (v + 1)) (nI i) 0 μ1 μ2 e2
    have ew : ∀ j, j < 64 → wdF f i 0 j = twF f i wn j := by
      intro j hj
      unfold wdF twF
      rw [if_pos c, upd_n (by omega), upd_n (by omega), if_pos rfl]
      rfl
    have a2 : ag (tw ν i wn) (wdF f i 0) := fun j hj => by rw [twF_ag w6 a j hj, ew j hj]
    have e6 : wdF f i 0 6 = f 6 := wdF_6 f i 0 (by omega)
    have R2' : Riv (wI μ2 22 0 v (nI i)) (4 + (v + 1)) (wdF f i 0) := Riv_c R2 (fun k j hk => ⟨rI_k (fun q => by rw [q] at hk; cases hk), rfl⟩) (fun _ _ => rfl) ok2.1.1.2 ok2.1.2.1.2 ok2.1.2.2.2
    obtain ⟨g, μ3, ν2, f', e3, e4, R3, ok3, a3, s6, fr, gb, k3, hi3, kq3⟩ := tryN hB R2' ok2 a2 (n := 4) (by omega) (by rw [e6]; omega)
    have kk : ∀ j, j < 6 ∨ (52 ≤ j ∧ j < 64) → f' j = f j := fun j hj => by rw [k3 j (by omega), wdF_6 f i 0 (by omega)]
    have e58 : rI ν2 61 0 (58 + i) = f (58 + i) := by rw [a3 (58 + i) (by omega), kk _ (by omega)]
    have r52 : rI μ2 52 (4 + v) i = f (58 + i) := by
      rw [(k2 52 (4 + v) (by unfold nQ; simp) i).1, (k1 52 (4 + v) (by unfold nR; simp) i).1]
      exact (R.2.2.2.2 i (by omega)).2.1
    rw [wdF_6 f i 0 (by omega)] at s6 gb
    rw [show 4 + (v + 1) = 5 + v by omega] at R3 kq3 k2 k1
    refine ⟨g, μ3, ν2, f', w + f (58 + i), e4, fr, R3, ok3, a3, by omega, by omega, by omega, kk 1 (by omega), ?_, fun _ => ⟨e58, (ok.2.2.2.2.2 i (by omega)).2⟩, ⟨?_, ?_, ?_, fun j hj => ?_⟩, ?_, fun j => ?_, ?_, ?_⟩
    · rw [if_pos c, e58]
    · exact keep_t (keep_t (keep_m k1 nH_R) (keep_m k2 nH_Q)) (keep_t (keep_wI rfl keep_r) (keep_m kq3 nH_Q))
    · rw [kg kq3 rfl, rI_k (by decide), kg k2 rfl, kf k1 rfl]
    · rw [kg kq3 rfl, rI_k (by decide), kg k2 rfl, kf k1 rfl]
    · rw [kg kq3 rfl, rI_j (by omega), kg k2 rfl, kf k1 rfl]
    · rw [kg kq3 rfl, rI_k (by decide), kg k2 rfl, kf k1 rfl]
    · rw [kg kq3 rfl, rI_k (by decide), kg k2 rfl, kf k1 rfl]
    · rw [kg kq3 rfl, rI_s, if_pos c]
    · rw [X0_tryHands_L105]
      rw [hcnt, if_neg (nI_nlt (by omega) (by omega)), if_neg (nI_ge c (by omega))]
      unfold X0_tryHands_J130
      rw [nI_1, if_pos i5', if_pos i5, xv, xv', e1, bV_s, if_neg n10, e2, bV_s]
      unfold X0_tryHands_J166 X0_tryHands_J183 X0_tryHands_J203
      rw [if_neg n10, if_pos i4, if_neg n10, if_pos (inb_nI (by omega) (by omega)), xv, ix_nI (by omega), r52, show (4 : Int32) = nI 4 from rfl, e3, bI_s, nI_1, nI_1]
  · have a2 : ag (tw ν i wn) f := fun j hj => by
      unfold tw
      rw [if_neg c]
      exact a j hj
    have R2' : Riv (wI μ1 22 0 v 6) (4 + (v + 1)) f := Riv_c R1 (fun k j hk => ⟨rI_k (fun q => by rw [q] at hk; cases hk), rfl⟩) (fun _ _ => rfl) ok.1.1.2 ok.1.2.1.2 ok.1.2.2.2
    obtain ⟨g, μ3, ν2, f', e3, e4, R3, ok3, a3, s6, fr, gb, k3, hi3, kq3⟩ := tryN hB R2' ok a2 (n := 4) (by omega) (by omega)
    have kk : ∀ j, j < 6 ∨ (52 ≤ j ∧ j < 64) → f' j = f j := fun j hj => by rw [k3 j (by omega)]
    rw [show 4 + (v + 1) = 5 + v by omega] at R3 kq3 k1
    refine ⟨g, μ3, ν2, f', w, e4, fr, R3, ok3, a3, by omega, by omega, by omega, kk 1 (by omega), ?_, fun q => absurd q c, ⟨?_, ?_, ?_, fun j hj => ?_⟩, ?_, fun j => ?_, ?_, ?_⟩
    · rw [if_neg c]
    · exact keep_t (keep_m k1 nH_R) (keep_t (keep_wI rfl keep_r) (keep_m kq3 nH_Q))
    · rw [kg kq3 rfl, rI_k (by decide), kf k1 rfl]
    · rw [kg kq3 rfl, rI_k (by decide), kf k1 rfl]
    · rw [kg kq3 rfl, rI_j (by omega), kf k1 rfl]
    · rw [kg kq3 rfl, rI_k (by decide), kf k1 rfl]
    · rw [kg kq3 rfl, rI_k (by decide), kf k1 rfl]
    · rw [kg kq3 rfl, rI_s, if_neg c]
    · rw [X0_tryHands_L105]
      rw [hcnt, if_neg (nI_nlt (by omega) (by omega)), if_pos (nI_le (by omega) (by omega))]
      unfold X0_tryHands_J130
      rw [nI_1, if_pos i5', if_pos i5, xv, xv', e1, bV_s, if_pos rfl]
      unfold X0_tryHands_J166 X0_tryHands_J183 X0_tryHands_J203
      rw [if_pos rfl, if_pos i4, if_pos rfl, xv, show (4 : Int32) = nI 4 from rfl, e3, bI_s, nI_1, nI_1]
theorem HR_k {hands v : Nat} {μ' ν' : sM} (h : HR μ ν hands) (e8 : rI μ' 1 0 8 = rI μ 1 0 8) (e21 : ∀ j, rI μ' 21 0 j = rI μ 21 0 j) (e33 : rI ν' 13 0 33 = rI ν 13 0 33) (e69 : ∀ j, rI ν' 69 0 j = rI ν 69 0 j) : HR μ' ν' hands := by
  unfold HR
  rw [e8, e33]
  refine ⟨h.1, h.2.elim Or.inl (fun z => Or.inr ⟨z.1, fun j hj => ?_⟩)⟩
  rw [e21, e69]
  exact z.2 j hj
theorem joL (hB : 0 ≤ B ∧ B ≤ 900000000) {hands v d n : Nat} (hv : v ≤ 3) {want : Int32} (hwant : rg want 0 999) (w gr : Int32) (ok : OkR B f) {wn : Nat} (hw : f 2 = nI wn) (w6 : wn ≤ 6) (h6 : (f 6).toInt + 4 * (d + 1) ≤ 10100) (hgr : 0 ≤ gr.toInt ∧ gr.toInt ≤ 24 * (v : Int)) (hww : 0 ≤ w.toInt ∧ w.toInt ≤ 99 * (v : Int))
    (IH : ∀ (f : Nat → Int32) (μ ν : sM) (w gr : Int32), Riv μ (5 + v) f → OkR B f → ag ν f → (f 6).toInt + 4 * d ≤ 10100 → rI μ 1 0 6 = nI hands → rI μ 1 0 7 = want → (0 ≤ w.toInt ∧ w.toInt ≤ 99 * ((v + 1 : Nat) : Int)) → (0 ≤ gr.toInt ∧ gr.toInt ≤ 24 * ((v + 1 : Nat) : Int)) → HR μ ν hands → (∀ j, j < v + 1 → rI μ 22 0 j = rI ν 68 0 j) → ∃ μ' ν', X0_tryHandsN n (nI (v + 1)) w gr μ = some μ' ∧ X12_hiresN n (nI (v + 1)) (nI hands) (want - gr) w ν = some ν' ∧ HR μ' ν' hands ∧ kH (v + 1) μ μ' ∧ mH (v + 1) ν ν') :
    ∀ (k i fu : Nat) (μ ν : sM), i + k = wn + 1 → k < fu → Riv μ (4 + v) f → ag ν f → svd v ν → rI μ 1 0 6 = nI hands → rI μ 1 0 7 = want → HR μ ν hands → (∀ j, j < v → rI μ 22 0 j = rI ν 68 0 j) →
      ∃ μ' ν', X0_tryHands_L105 (X0_tryHandsN n) fu (nI v) w gr (4 + v) (nI i) μ = some μ' ∧ X12_hires_L70 (X12_hiresN n) fu (nI v) (nI hands) (want - gr) w (nI i) ν = some ν' ∧ HR μ' ν' hands ∧ kH v μ μ' ∧ mH v ν ν'
  | 0, i, fu + 1, μ, ν, h, _, R, a, sv, q6, q7, hr, h22 => by
    refine ⟨μ, ν, ?_, ?_, hr, kH_r v μ, mH_r v ν⟩
    · unfold X0_tryHands_L105
      rw [R.1.2.2.1, hw, if_pos (nI_lt (by omega) (by omega))]
    · unfold X12_hires_L70
      rw [a 2 (by omega), hw, if_pos (nI_lt (by omega) (by omega))]
  | k + 1, i, fu + 1, μ, ν, h, hf, R, a, sv, q6, q7, hr, h22 => by
    obtain ⟨g, μ3, ν2, f', w', e1, fr, R3, ok3, a3, s6, g24, -, -, hw', e58, k3, b3, l3, p3, eX⟩ := iterX hB (rec := X0_tryHandsN n) (fu := fu) (w := w) (gr := gr) hv (i := i) (by omega) w6 R ok a hw (by omega)
    have tg : (gr + g).toInt = gr.toInt + g.toInt := tA (by omega) (by omega)
    have tww : w.toInt ≤ w'.toInt ∧ w'.toInt ≤ w.toInt + 99 := by
      rw [hw']
      by_cases c : i < wn
      · obtain ⟨z1, z2⟩ := e58 c
        unfold rg at z2
        rw [if_pos c, z1, tA (by omega) (by omega)]
        omega
      · rw [if_neg c]
        omega
    have es : want - (gr + g) = want - gr - g := by
      rw [Int32.sub_eq_add_neg, Int32.sub_eq_add_neg, Int32.sub_eq_add_neg, Int32.neg_add, Int32.add_assoc, Int32.sub_eq_add_neg]
    have e68 : ∀ j, rI (wI ν2 68 0 v (if i < wn then nI i else 6)) 68 0 j = if j = v then (if i < wn then nI i else 6) else rI ν 68 0 j := by
      intro j
      by_cases z : j = v
      · rw [if_pos z, z, rI_s]
      · rw [if_neg z, rI_j z, fr.1 68 0 j (Or.inl (by decide)) (by decide) (by decide), tw_o _ _ _ (Or.inl (by decide))]
    obtain ⟨μ4, ν4, x1, x2, x3, x4, x5⟩ := IH f' μ3 (wI ν2 68 0 v (if i < wn then nI i else 6)) w' (gr + g) R3 ok3 (fun j hj => by rw [rI_k (by decide)]; exact a3 j hj) (by omega) (k3.2.1.trans q6) (k3.2.2.1.trans q7) (by omega) (by omega) (HR_k (v := v) hr b3 l3 (by rw [rI_k (by decide), fr.1 13 0 33 (Or.inl (by decide)) (by decide) (by decide), tw_o _ _ _ (Or.inl (by decide))]) (fun j => by rw [rI_k (by decide), fr.1 69 0 j (Or.inl (by decide)) (by decide) (by decide), tw_o _ _ _ (Or.inl (by decide))])) (fun j hj => by
      rw [e68]
      by_cases z : j = v
      · rw [if_pos z, z, p3]
      · rw [if_neg z, k3.2.2.2 j (by omega)]
        exact h22 j (by omega))
    rw [es] at x2
    obtain ⟨ν5, e5, m5, s5, b5, l5⟩ := iterH hv sv fr x5
    have K4 : kH v μ μ4 := kH_t k3 ⟨keep_m x4.1 nH_s, x4.2.1, x4.2.2.1, fun j hj => x4.2.2.2 j (by omega)⟩
    have R4 : Riv μ4 (4 + v) f := Riv_c R (fun a j ha => ⟨(K4.1 a (4 + v) (nH_r ha (by omega)) j).1, (K4.1 a (4 + v) (nH_r ha (by omega)) j).2.1⟩) (fun _ _ => rfl) ok.1.1.2 ok.1.2.1.2 ok.1.2.2.2
    obtain ⟨μ', ν', y1, y2, y3, y4, y5⟩ := joL hB hv hwant w gr ok hw w6 h6 hgr hww IH k (i + 1) fu μ4 ν5 (by omega) (by omega) R4 (fun j hj => by rw [m5.1 j (by omega)]; exact a j hj) s5 (K4.2.1.trans q6) (K4.2.2.1.trans q7) (HR_k (v := v) x3 rfl (fun _ => rfl) b5 l5) (fun j hj => by rw [K4.2.2.2 j hj, m5.2.2.1 j hj]; exact h22 j hj)
    refine ⟨μ', ν', ?_, ?_, y3, kH_t K4 y4, mH_t m5 y5⟩
    · rw [eX, x1, bV_s, y1]
    · rw [iterM (by omega) w6 ((a 2 (by omega)).trans hw) hv e1, ← hw', x2, bV_s, e5, bV_s, y2]
theorem cps_l {hands : Nat} (hh : hands ≤ 4) {rec : Int32 → Int32 → Int32 → Int32 → sM → Option sM} : ∀ (k i fu : Nat) (ν : sM), i + k = hands → k < fu → X12_hires_L35 rec fu (nI hands) (nI i) ν = some (sC ν 69 0 (fun j => if i ≤ j ∧ j < hands then rI ν 68 0 j else rI ν 69 0 j))
  | 0, i, fu + 1, μ, h, _ => by
    unfold X12_hires_L35
    rw [if_pos (nI_le (by omega) (by omega)), sC_id]
    intro j
    rw [if_neg (by omega)]
  | k + 1, i, fu + 1, μ, h, hf => by
    unfold X12_hires_L35
    rw [if_neg (nI_ge (by omega) (by omega)), if_pos (inb_nI (by omega) (by omega)), if_pos (inb_nI (by omega) (by omega)), ix_nI (by omega), nI_1, cps_l hh k (i + 1) fu _ (by omega) (by omega), sC_wI]
    refine congrArg some (sC_c _ _ _ (fun j => ?_))
    rw [rI_k (by decide)]
    by_cases e : j = i
    · subst e
      rw [if_neg (by omega), if_pos (by omega), rI_s]
    · rw [rI_j e]
      by_cases q : i + 1 ≤ j ∧ j < hands
      · rw [if_pos q, if_pos (by omega)]
      · rw [if_neg q, if_neg (by omega)]
theorem cp_4 {n : Nat} (h : n ≤ 4) : cpo 0 0 (nI n) 4 4 = true := by
  unfold cpo
  rw [nI_clamp (show n < 2 ^ 31 by omega)]
  exact decide_eq_true ⟨by decide +kernel, by decide +kernel, nI_pos (by omega), by rw [show (0 : Int32).toNatClampNeg = 0 from by decide +kernel]; omega, by rw [show (0 : Int32).toNatClampNeg = 0 from by decide +kernel]; omega⟩
theorem jo (hB : 0 ≤ B ∧ B ≤ 900000000) {hands : Nat} (hh : hands ≤ 4) {want : Int32} (hwant : rg want 0 999) : ∀ (d n v : Nat) (f : Nat → Int32) (μ ν : sM) (w gr : Int32), d < n → v + d = hands → Riv μ (4 + v) f → OkR B f → ag ν f → (f 6).toInt + 4 * d ≤ 10100 → rI μ 1 0 6 = nI hands → rI μ 1 0 7 = want → (0 ≤ w.toInt ∧ w.toInt ≤ 99 * (v : Int)) → (0 ≤ gr.toInt ∧ gr.toInt ≤ 24 * (v : Int)) → HR μ ν hands → (∀ j, j < v → rI μ 22 0 j = rI ν 68 0 j) →
    ∃ μ' ν', X0_tryHandsN n (nI v) w gr μ = some μ' ∧ X12_hiresN n (nI v) (nI hands) (want - gr) w ν = some ν' ∧ HR μ' ν' hands ∧ kH v μ μ' ∧ mH v ν ν'
  | 0, n + 1, v, f, μ, ν, w, gr, _, hv, R, ok, a, h6, q6, q7, hww, hgr, hr, h22 => by
    have hwt := hwant
    unfold rg at hwt
    have tr : (want - gr).toInt = want.toInt - gr.toInt := tS (by omega) (by omega)
    show ∃ μ' ν', X0_tryHands_ (X0_tryHandsN n) (nI v) w gr μ = some μ' ∧ X12_hires_ (X12_hiresN n) (nI v) (nI hands) (want - gr) w ν = some ν' ∧ HR μ' ν' hands ∧ kH v μ μ' ∧ mH v ν ν'
    have ev : nI v = nI hands := by rw [show v = hands by omega]
    have i5 : inb (nI v) 5 = true := inb_nI (by omega) (by omega)
    unfold X0_tryHands_ X12_hires_ X0_tryHands_J17
    rw [hr.1, q6, q7, if_pos ev, if_neg (show ¬ nI v < nI hands from nI_nlt (by omega) (by omega))]
    by_cases c1 : gr < want
    · have c2 : 0 < want - gr := by
        rw [lt_i] at c1
        rw [lt_i, t0, tr]
        omega
      rw [if_pos c1, if_pos c2]
      refine ⟨μ, ν, ?_, rfl, hr, kH_r v μ, mH_r v ν⟩
      by_cases z : rI ν 13 0 33 = -1
      · rw [if_pos z]
      · rw [if_neg z]
        by_cases y : w < rI ν 13 0 33
        · rw [if_pos y]
        · rw [if_neg y]
    · have c2 : ¬ 0 < want - gr := by
        rw [lt_i] at c1
        rw [lt_i, t0, tr]
        omega
      rw [if_neg c1, if_neg c2, if_pos (cp_4 hh), x0_, ix_nI (by omega)]
      have go : (if rI ν 13 0 33 = -1 then some (cI (wI μ 1 0 8 w) 22 0 0 21 0 0 hands) else if w < rI ν 13 0 33 then some (cI (wI μ 1 0 8 w) 22 0 0 21 0 0 hands) else some μ) = (if rI ν 13 0 33 = -1 ∨ w < rI ν 13 0 33 then some (cI (wI μ 1 0 8 w) 22 0 0 21 0 0 hands) else some μ) := by
        by_cases z : rI ν 13 0 33 = -1
        · rw [if_pos z, if_pos (Or.inl z)]
        · rw [if_neg z]
          by_cases y : w < rI ν 13 0 33
          · rw [if_pos y, if_pos (Or.inr y)]
          · rw [if_neg y, if_neg (fun q => q.elim z y)]
      rw [go]
      by_cases z : rI ν 13 0 33 = -1 ∨ w < rI ν 13 0 33
      · have eM : (if rI ν 13 0 33 < 0 then X12_hires_J26 (X12_hiresN n) (nI hands) w ν else if w < rI ν 13 0 33 then X12_hires_J26 (X12_hiresN n) (nI hands) w ν else some ν) = X12_hires_J26 (X12_hiresN n) (nI hands) w ν := by
          rcases z with z | z
          · rw [if_pos (by rw [z]; decide +kernel)]
          · by_cases y : rI ν 13 0 33 < 0
            · rw [if_pos y]
            · rw [if_neg y, if_pos z]
        have cp := cps_l hh (rec := X12_hiresN n) hands 0 fuN (wI ν 13 0 33 w) (by omega) (fuN_6 (by omega))
        rw [nI_0] at cp
        rw [eM, if_pos z]
        refine ⟨_, _, rfl, cp, ⟨?_, Or.inr ⟨?_, fun j hj => ?_⟩⟩, ⟨keep_cI rfl (keep_wI rfl keep_r), ?_, ?_, fun j hj => ?_⟩, fun j hj => ?_, fun j hj => ?_, fun j hj => ?_, kM_sC (fun j hq => by exact absurd hq (by rw [show qB 69 0 j = false from rfl]; simp)) (kM_wI (Or.inl rfl) kM_r), ?_⟩
        · rw [rI_cI, if_neg (by omega), rI_s, sC_k (by decide), rI_s]
        · rw [sC_k (by decide), rI_s]
          exact hww.1
        · rw [rI_cI, if_pos ⟨rfl, rfl, by omega, by omega⟩, sC_s, if_pos (by omega), rI_k (by decide), rI_k (by decide), show 0 + (j - 0) = j by omega]
          exact h22 j (by omega)
        · rw [rI_cI, if_neg (by omega), rI_j (by decide)]
        · rw [rI_cI, if_neg (by omega), rI_j (by decide)]
        · rw [rI_cI, if_neg (by omega), rI_k (by decide)]
        · rw [sC_k (by decide), rI_k (by decide)]
        · rw [sC_k (by decide), rI_k (by decide)]
        · rw [sC_k (by decide), rI_k (by decide)]
        · rw [sC_k (by decide), rI_j (by decide)]
      · rw [if_neg z]
        have z1 : ¬ rI ν 13 0 33 < 0 := by
          rcases hr.2 with q | q
          · exact absurd (Or.inl q) z
          · rw [lt_i, t0]; omega
        rw [if_neg z1, if_neg (fun q => z (Or.inr q))]
        exact ⟨μ, ν, rfl, rfl, hr, kH_r v μ, mH_r v ν⟩
  | d + 1, n + 1, v, f, μ, ν, w, gr, hdn, hv, R, ok, a, h6, q6, q7, hww, hgr, hr, h22 => by
    have hwt := hwant
    unfold rg at hwt
    have c1 := ok.1.2.1
    unfold rg at c1
    have tr : (want - gr).toInt = want.toInt - gr.toInt := tS (by omega) (by omega)
    have i5 : inb (nI v) 5 = true := inb_nI (by omega) (by omega)
    have xv : ix (nI v) = v := ix_nI (by omega)
    show ∃ μ' ν', X0_tryHands_ (X0_tryHandsN n) (nI v) w gr μ = some μ' ∧ X12_hiresN (n + 1) (nI v) (nI hands) (want - gr) w ν = some ν' ∧ HR μ' ν' hands ∧ kH v μ μ' ∧ mH v ν ν'
    have pr : noP ν (d + 1) (f 1).toInt (want - gr) w → X0_tryHands_ (X0_tryHandsN n) (nI v) w gr μ = some μ → ∃ μ' ν', X0_tryHands_ (X0_tryHandsN n) (nI v) w gr μ = some μ' ∧ X12_hiresN (n + 1) (nI v) (nI hands) (want - gr) w ν = some ν' ∧ HR μ' ν' hands ∧ kH v μ μ' ∧ mH v ν ν' := by
      intro hn e
      obtain ⟨ν', e1, e2, e3⟩ := ne hB hh (d + 1) (n + 1) v f ν (want - gr) w hdn hv ok a (by omega) (by omega) hww hn
      exact ⟨μ, ν', e, e1, HR_k (v := v) hr rfl (fun _ => rfl) e3.1 e3.2, kH_r v μ, e2⟩
    have em : rI μ 3 (4 + v) 0 = f 1 := R.1.2.1
    have tb : ((nI hands - nI v) * 4 * f 1).toInt = 4 * ((d + 1 : Nat) : Int) * (f 1).toInt := by
      rw [nsub (by omega) (by omega), show (4 : Int32) = nI 4 from rfl, pk_mul, show hands - v = d + 1 by omega]
      have t4 := nI_toInt (n := (d + 1) * 4) (by omega)
      have q : ((nI ((d + 1) * 4)).toInt) * (f 1).toInt ≤ 16 * 6 := Int.mul_le_mul (by omega) (by omega) (by omega) (by omega)
      have q' : 0 ≤ ((nI ((d + 1) * 4)).toInt) * (f 1).toInt := Int.mul_nonneg (by omega) (by omega)
      rw [tM (by omega) (by omega), t4]
      congr 1
      omega
    have q : 4 * ((d + 1 : Nat) : Int) * (f 1).toInt ≤ 16 * 6 := Int.mul_le_mul (by omega) (by omega) (by omega) (by omega)
    have q' : 0 ≤ 4 * ((d + 1 : Nat) : Int) * (f 1).toInt := Int.mul_nonneg (by omega) (by omega)
    have ts : (gr + (nI hands - nI v) * 4 * f 1).toInt = gr.toInt + 4 * ((d + 1 : Nat) : Int) * (f 1).toInt := by
      rw [tA (by rw [tb]; omega) (by rw [tb]; omega), tb]
    by_cases pb : rI ν 13 0 33 = -1 ∨ w < rI ν 13 0 33
    · have eX : X0_tryHands_ (X0_tryHandsN n) (nI v) w gr μ = X0_tryHands_J17 (X0_tryHandsN n) (nI v) w gr μ := by
        unfold X0_tryHands_
        rw [hr.1]
        rcases pb with z | z
        · rw [if_pos z]
        · by_cases y : rI ν 13 0 33 = -1
          · rw [if_pos y]
          · rw [if_neg y, if_pos z]
      have eJ : X0_tryHands_J17 (X0_tryHandsN n) (nI v) w gr μ = if want ≤ gr + (nI hands - nI v) * 4 * f 1 then X0_tryHands_L105 (X0_tryHandsN n) fuN (nI v) w gr (4 + v) 0 μ else some μ := by
        unfold X0_tryHands_J17
        rw [q6, q7, if_pos (nI_lt (by omega) (by omega)), if_pos i5, xv, em, if_pos i5]
      by_cases pc : want ≤ gr + (nI hands - nI v) * 4 * f 1
      · obtain ⟨wn, hw, w6, hw'⟩ := rg_nI (b := 6) ok.1.2.2
        have ne' : ¬ nI v = nI hands := fun q => by rw [nI_eq (by omega) (by omega)] at q; omega
        obtain ⟨μ', ν', y1, y2, y3, y4, y5⟩ := joL hB (hands := hands) (v := v) (d := d) (n := n) (by omega) hwant w gr ok hw w6 (by omega) hgr hww (fun f μ ν w gr R ok a h6 q6 q7 hww hgr hr h22 => jo hB hh hwant d n (v + 1) f μ ν w gr (by omega) (by omega) (by rw [show 4 + (v + 1) = 5 + v by omega]; exact R) ok a h6 q6 q7 hww hgr hr h22) (wn + 1) 0 fuN μ (sC ν 67 0 (fun j => if 76 * v ≤ j ∧ j < 76 * v + 76 then rI ν 61 0 (j - 76 * v) else rI ν 67 0 j)) (by omega) (fuN_6 (by omega)) R (fun j hj => by rw [sC_k (by decide)]; exact a j hj) (fun j hj => by rw [sC_s, if_pos (by omega), sC_k (by decide), show 76 * v + j - 76 * v = j by omega]) q6 q7 (HR_k (v := v) hr rfl (fun _ => rfl) (by rw [sC_k (by decide)]) (fun j => by rw [sC_k (by decide)])) (fun j hj => by rw [sC_k (by decide)]; exact h22 j hj)
        rw [nI_0] at y1 y2
        refine ⟨μ', ν', ?_, ?_, y3, y4, mH_t ⟨fun j hj => by rw [sC_k (by decide)], fun j hj => by rw [sC_s, if_neg (by omega)], fun j hj => by rw [sC_k (by decide)], kM_sC (fun j hq => by exact absurd hq (by rw [show qB 67 0 j = false from rfl]; simp)) kM_r, by rw [sC_k (by decide)]⟩ y5⟩
        · rw [eX, eJ, if_pos pc, y1]
        · show X12_hires_ (X12_hiresN n) (nI v) (nI hands) (want - gr) w ν = some ν'
          unfold X12_hires_
          rw [if_neg ne', lays_e (by omega), bV_s, y2]
      · refine pr (Or.inr ?_) (by rw [eX, eJ, if_neg pc])
        rw [le_i, ts] at pc
        rw [tr]
        omega
    · have z1 : ¬ rI ν 13 0 33 = -1 := fun q => pb (Or.inl q)
      have z2 : ¬ w < rI ν 13 0 33 := fun q => pb (Or.inr q)
      refine pr (Or.inl ?_) ?_
      · rcases hr.2 with q | q
        · exact absurd q z1
        · rw [lt_i] at z2
          omega
      · unfold X0_tryHands_
        rw [hr.1, if_neg z1, if_neg z2]
end C97c
