/-! 98: game, moveOf -/
section C98
variable {B : Int} {μ ν : sM} {f : Nat → Int32}
theorem iterP {v y : Nat} {x : Int32} {ν2 ν4 : sM} (hv : v ≤ 3) (hy : y < 76) (sv : svd v ν) (fr : mfr (wI ν 61 0 y x) ν2) (h4 : mH (v + 1) ν2 ν4) : ∃ ν5, X12_takesTurn (nI v) ν4 = some ν5 ∧ mH v ν ν5 ∧ svd v ν5 := by
  have e67 : ∀ j, j < 76 * (v + 1) → rI ν4 67 0 j = rI ν 67 0 j := fun j hj => by
    rw [h4.2.1 j hj, fr.1 67 0 j (Or.inl (by decide)) (by decide) (by decide), rI_k (by decide)]
  refine ⟨_, takes_e (by omega) ν4, ⟨fun j hj => ?_, fun j hj => ?_, fun j hj => ?_, ?_, ?_⟩, fun j hj => ?_⟩
  · rw [sC_s, if_pos hj, e67 _ (by omega), sv j hj]
  · rw [sC_k (by decide), e67 j (by omega)]
  · rw [sC_k (by decide), h4.2.2.1 j (by omega), fr.1 68 0 j (Or.inl (by decide)) (by decide) (by decide), rI_k (by decide)]
  · have k1 : kM ν ν4 := kM_t (kM_t (kM_wI (Or.inr ⟨rfl, rfl, hy⟩) kM_r) (kM_m fr)) h4.2.2.2.1
    refine kM_sC (fun j hq hb => ?_) k1
    rw [if_neg (by omega)]
    exact k1.2 61 0 j hq hb
  · rw [sC_k (by decide), h4.2.2.2.2, fr.1 13 0 0 (Or.inl (by decide)) (by decide) (by decide), rI_k (by decide)]
  · rw [sC_k (by decide), e67 _ (by omega), sv j hj, sC_s, if_pos hj, e67 _ (by omega), sv j hj]
/-- what the class's game from depth v on leaves as it was -/
def kP (v : Nat) (μ μ' : sM) : Prop := keep (nH v) μ μ' ∧ rI μ' 1 0 9 = rI μ 1 0 9 ∧ rI μ' 1 0 10 = rI μ 1 0 10 ∧ rI μ' 1 0 11 = rI μ 1 0 11 ∧ (v ≠ 0 → rI μ' 1 0 3 = rI μ 1 0 3)
theorem kP_r (v : Nat) (μ : sM) : kP v μ μ := ⟨keep_r, rfl, rfl, rfl, fun _ => rfl⟩
theorem kP_t {v : Nat} {a b c : sM} (h : kP v a b) (h' : kP v b c) : kP v a c := ⟨keep_t h.1 h'.1, h'.2.1.trans h.2.1, h'.2.2.1.trans h.2.2.1, h'.2.2.2.1.trans h.2.2.2.1, fun z => (h'.2.2.2.2 z).trans (h.2.2.2.2 z)⟩
/-- the gate that a move gives -/
def mvg (i : Nat) (g : Int32) : Int32 := if i = 0 then 99 else if i = 1 then 0 else g
abbrev tak (i : Nat) (fl x b : Int32) : Prop := i = 0 ∨ (fl = 0 ∧ x < b) ∨ (¬ fl = 0 ∧ b < x)
/-- one round of the class's loop -/
theorem playX (hB : 0 ≤ B ∧ B ≤ 900000000) {rec : Int32 → sM → Option (Int32 × sM)} {v i fu z m : Nat} {fl b : Int32} (hv : v ≤ 3) (hi : i ≤ 2) (R : Riv μ (4 + v) f) (ok : OkR B f) (a : ag ν f) (h6 : (f 6).toInt + 1 ≤ 10100) (hm : (m : Int) < (f 1).toInt) (hz : f (34 + m) = nI z) (z6 : z < 6) (e9 : (if fl = 0 then rI μ 1 0 10 else rI μ 1 0 9) = nI m) :
    ∃ y μ3 ν2 f', X12_goesHour (wI ν 61 0 (22 + z) (mvg i (f (22 + z)))) = some (y, ν2) ∧ mfr (wI ν 61 0 (22 + z) (mvg i (f (22 + z)))) ν2 ∧ Riv μ3 (5 + v) f' ∧ OkR B f' ∧ ag ν2 f' ∧ (f' 6).toInt = (f 6).toInt + 1 ∧ (∀ j, j < 3 ∨ (34 ≤ j ∧ j < 46) → f' j = f j) ∧ keep (nH v) μ μ3 ∧ (∀ j, rI μ3 1 0 j = rI μ 1 0 j) ∧
      ∀ x μ4, rec (nI (v + 1)) μ3 = some (x, μ4) → X0_play_L36 rec (fu + 1) (nI v) fl b (nI i) μ = if tak i fl x b then X0_play_L36 rec fu (nI v) fl x (nI (i + 1)) (if v = 0 then wI μ4 1 0 3 (nI i) else μ4) else X0_play_L36 rec fu (nI v) fl b (nI (i + 1)) μ4 := by
  have c0 := ok.1.1
  have c1 := ok.1.2.1
  unfold rg at c0 c1
  have m6 : m < 6 := by omega
  have hzr := ok.2.2.2.2.1 m hm
  have tz := nI_toInt (n := z) (by omega)
  rw [hz] at hzr
  have z0 : (z : Int) < (f 0).toInt := by omega
  have i5 : inb (nI v) 5 = true := inb_nI (by omega) (by omega)
  have i5' : inb (nI (v + 1)) 5 = true := inb_nI (by omega) (by omega)
  have xv : ix (nI v) = v := ix_nI (by omega)
  have xv' : ix (nI (v + 1)) = v + 1 := ix_nI (by omega)
  obtain ⟨μ1, e1, R1, -⟩ := copyR R ok (a := 4 + (v + 1)) (by omega)
  have k1 := X4_copyFrom_fr (4 + (v + 1)) (4 + v) μ μ1 e1
  have r25 : rI μ1 25 (4 + (v + 1)) m = nI z := ((R1.2.2.2.1 m hm).1).trans hz
  obtain ⟨x1, x2⟩ := clk_p 1 z (by omega) z6 (k := 30) rfl
  have rg22 := (ok.2.2.2.1 z z0).2.1
  have okg : rg (mvg i (f (22 + z))) 0 99 := by
    unfold mvg
    by_cases q : i = 0
    · rw [if_pos q]; exact ⟨by decide, by decide⟩
    · rw [if_neg q]
      by_cases q' : i = 1
      · rw [if_pos q']; exact ⟨by decide, by decide⟩
      · rw [if_neg q']; exact rg22
  have ok2 : OkR B (upd f (22 + z) (mvg i (f (22 + z)))) := OkR_u ok (Or.inr (Or.inr (Or.inr (Or.inr (Or.inr (Or.inr (Or.inr (Or.inl ⟨by omega, by omega, okg⟩))))))))
  obtain ⟨μ2, e2, R2, k2⟩ : ∃ μ2, X0_moveGate (4 + (v + 1)) (nI m) (nI i) μ1 = some μ2 ∧ Riv μ2 (4 + (v + 1)) (upd f (22 + z) (mvg i (f (22 + z)))) ∧ keep (nR (4 + (v + 1))) μ1 μ2 := by
    have R2 := fun w => Riv_u (j := 16 + 6 * 1 + z) (v := w) R1 ⟨_, ok⟩ (by omega)
    rw [x1, x2] at R2
    have kk : ∀ w, keep (nR (4 + (v + 1))) μ1 (wI μ1 30 (4 + (v + 1)) z w) := fun w => keep_wI (nR_s rfl) keep_r
    unfold X0_moveGate
    rw [if_pos (inb_nI m6 (by omega)), ix_nI (show m < 2 ^ 31 by omega), r25, if_pos (inb_nI z6 (by omega)), ix_nI (show z < 2 ^ 31 by omega)]
    rcases (show i = 0 ∨ i = 1 ∨ i = 2 by omega) with rfl | rfl | rfl
    · exact ⟨_, by rw [if_pos nI_0], R2 99, kk 99⟩
    · exact ⟨_, by rw [if_neg (show ¬ nI 1 = 0 by decide +kernel), if_pos (show nI 1 = 1 by decide +kernel), if_pos (inb_nI z6 (by omega))], R2 0, kk 0⟩
    · refine ⟨μ1, by rw [if_neg (by decide +kernel), if_neg (by decide +kernel)], ?_, keep_r⟩
      have e : upd f (22 + z) (mvg 2 (f (22 + z))) = f := by
        funext j
        by_cases q : j = 22 + z
        · rw [q, upd_s]; rfl
        · rw [upd_n q]
      rw [e]
      exact R1
  have a2 : ag (wI ν 61 0 (22 + z) (mvg i (f (22 + z)))) (upd f (22 + z) (mvg i (f (22 + z)))) := by
    intro j hj
    by_cases q : j = 22 + z
    · rw [q, rI_s, upd_s]
    · rw [rI_j q, upd_n q, a j hj]
  obtain ⟨y, μ3, ν2, f', e3, e4, R3, ok3, a3, s6, -, fr, -, k3, -⟩ := hourW R2 ok2 a2 (by omega) (by rw [upd_n (by omega)]; omega)
  have kq3 := X4_passHour_fr (4 + (v + 1)) μ2 y μ3 e3
  rw [upd_n (by omega)] at s6
  have K1 : ∀ j, rI μ3 1 0 j = rI μ 1 0 j := fun j => by rw [kf kq3 rfl, kf k2 rfl, kf k1 rfl]
  have K2 : ∀ j, rI μ1 1 0 j = rI μ 1 0 j := fun j => by rw [kf k1 rfl]
  have e5 : 4 + (v + 1) = 5 + v := by omega
  refine ⟨y, μ3, ν2, f', e4, fr, by rw [← e5]; exact R3, ok3, a3, s6, fun j hj => by rw [k3 j (by omega), upd_n (by omega)], ?_, K1, ?_⟩
  · rw [e5] at k1 k2 kq3
    exact keep_t (keep_t (keep_m k1 nH_R) (keep_m k2 nH_R)) (keep_m kq3 nH_R)
  · intro x μ4 er
    have eJ : X0_play_L36 rec (fu + 1) (nI v) fl b (nI i) μ = X0_play_J80 rec (X0_play_L36 rec fu) (nI v) fl b (nI i) (4 + (v + 1)) (nI m) (4 + (v + 1)) μ1 := by
      rw [X0_play_L36]
      rw [if_neg (show ¬ (2 : Int32) < nI i from nI_nlt (b := i) (a := 2) (by omega) (by omega)), nI_1, if_pos i5', if_pos i5, xv, xv', e1, bV_s, K2, K2]
      by_cases q : fl = 0
      · rw [if_pos q] at e9 ⊢
        rw [e9]
      · rw [if_neg q] at e9 ⊢
        rw [e9]
    have j124 : ∀ w, X0_play_J124 rec (X0_play_L36 rec fu) (nI v) fl (nI i) w μ4 = X0_play_L36 rec fu (nI v) fl w (nI (i + 1)) (if v = 0 then wI μ4 1 0 3 (nI i) else μ4) := by
      intro w
      unfold X0_play_J124 X0_play_J137
      by_cases q : v = 0
      · rw [if_pos (by rw [q, nI_0]), if_pos q, nI_1]
      · rw [if_neg (nI_ne0 (by omega) (by omega)), if_neg q, nI_1]
    rw [eJ]
    unfold X0_play_J80
    rw [e2, bV_s, e3, bI_s, nI_1, er, bI_s, j124]
    have j137 : X0_play_J137 rec (X0_play_L36 rec fu) (nI v) fl b (nI i) μ4 = X0_play_L36 rec fu (nI v) fl b (nI (i + 1)) μ4 := by
      unfold X0_play_J137
      rw [nI_1]
    rw [j137]
    by_cases q : i = 0
    · rw [if_pos (by rw [q, nI_0]), if_pos (Or.inl q)]
    · rw [if_neg (nI_ne0 (by omega) (by omega))]
      by_cases w : fl = 0
      · rw [if_pos w]
        by_cases u : b ≤ x
        · rw [if_pos u, if_neg (fun t => by
            rcases t with t | t | t
            · exact q t
            · exact absurd u (Int32.not_le.mpr t.2)
            · exact t.1 w)]
        · rw [if_neg u, if_pos (Or.inr (Or.inl ⟨w, Int32.not_le.mp u⟩))]
      · rw [if_neg w]
        by_cases u : x ≤ b
        · rw [if_pos u, if_neg (fun t => by
            rcases t with t | t | t
            · exact q t
            · exact w t.1
            · exact absurd u (Int32.not_le.mpr t.2))]
        · rw [if_neg u, if_pos (Or.inr (Or.inr ⟨w, Int32.not_le.mp u⟩))]
theorem playM {rec : Int32 → Int32 → Int32 → Int32 → sM → Option (Int32 × sM)} {v i fu z p q mv : Nat} {fl b bm x y : Int32} {ν2 ν4 ν5 : sM} (hi : i ≤ 2) (z6 : z < 6) (a : ag ν f) (hb : (i = 0 ∧ bm = -1) ∨ (0 < i ∧ 0 ≤ bm.toInt)) (e2 : X12_goesHour (wI ν 61 0 (22 + z) (mvg i (f (22 + z)))) = some (y, ν2)) (e4 : rec (nI p) (nI q) (nI (v + 1)) (nI mv) ν2 = some (x, ν4)) (e5 : X12_takesTurn (nI v) ν4 = some ν5) :
    X12_plays_L73 rec (fu + 1) (nI p) (nI q) (nI v) (nI mv) fl (nI z) b bm (nI i) ν = if tak i fl x b then X12_plays_L73 rec fu (nI p) (nI q) (nI v) (nI mv) fl (nI z) x (nI i) (nI (i + 1)) ν5 else X12_plays_L73 rec fu (nI p) (nI q) (nI v) (nI mv) fl (nI z) b bm (nI (i + 1)) ν5 := by
  have ig : inb (nI (22 + z)) 1740 = true := inb_nI (by omega) (by omega)
  have xg : ix (nI (22 + z)) = 22 + z := ix_nI (by omega)
  have eJ : X12_plays_L73 rec (fu + 1) (nI p) (nI q) (nI v) (nI mv) fl (nI z) b bm (nI i) ν = X12_plays_J118 rec (X12_plays_L73 rec fu) (nI p) (nI q) (nI v) (nI mv) fl (nI z) b bm (nI i) (mvg i (f (22 + z))) (nI (22 + z)) ν := by
    rw [X12_plays_L73]
    rw [if_neg (show ¬ (3 : Int32) ≤ nI i from nI_ge (b := 3) (by omega) (by omega)), l22, if_pos ig, xg, a (22 + z) (by omega)]
    rcases (show i = 0 ∨ i = 1 ∨ i = 2 by omega) with rfl | rfl | rfl
    · rw [if_pos nI_0]; rfl
    · rw [if_neg (by decide +kernel), if_pos (by decide +kernel)]; rfl
    · rw [if_neg (by decide +kernel), if_neg (by decide +kernel)]; rfl
  have b0 : bm < 0 ↔ i = 0 := by
    rw [lt_i, t0]
    rcases hb with h | h
    · rw [h.2, m1_q]; omega
    · omega
  rw [eJ]
  unfold X12_plays_J118
  rw [if_pos ig, xg, e2, bI_s, nI_1, e4, bI_s, e5, bV_s]
  unfold X12_plays_J172 X12_plays_J180
  rw [nI_1]
  by_cases c : i = 0
  · rw [if_pos (b0.mpr c), if_pos (Or.inl c)]
  · rw [if_neg (fun t => c (b0.mp t))]
    by_cases w : fl = 0
    · rw [if_pos w]
      by_cases u : x < b
      · rw [if_pos u, if_pos (Or.inr (Or.inl ⟨w, u⟩))]
      · rw [if_neg u, if_neg (fun t => by
          rcases t with t | t | t
          · exact c t
          · exact u t.2
          · exact t.1 w)]
    · rw [if_neg w]
      by_cases u : b < x
      · rw [if_pos u, if_pos (Or.inr (Or.inr ⟨w, u⟩))]
      · rw [if_neg u, if_neg (fun t => by
          rcases t with t | t | t
          · exact c t
          · exact w t.1
          · exact u t.2)]
theorem plL (hB : 0 ≤ B ∧ B ≤ 900000000) {v d n z m p q mv : Nat} {fl : Int32} (hv : v ≤ 3) (ok : OkR B f) (h6 : (f 6).toInt + (d + 1) ≤ 10100) (hm : (m : Int) < (f 1).toInt) (hz : f (34 + m) = nI z) (z6 : z < 6) (em : m = if fl = 0 then q else p)
    (IH : ∀ (f' : Nat → Int32) (μ ν : sM), Riv μ (5 + v) f' → OkR B f' → ag ν f' → (f' 6).toInt + d ≤ 10100 → f' 1 = f 1 → rI μ 1 0 9 = nI p → rI μ 1 0 10 = nI q → rI μ 1 0 11 = nI mv → ∃ x μ' ν', X0_playN n (nI (v + 1)) μ = some (x, μ') ∧ X12_playsN n (nI p) (nI q) (nI (v + 1)) (nI mv) ν = some (x, ν') ∧ kP (v + 1) μ μ' ∧ mH (v + 1) ν ν') :
    ∀ (k i fu : Nat) (μ ν : sM) (b bm : Int32), i + k = 3 → k < fu → Riv μ (4 + v) f → ag ν f → svd v ν → rI μ 1 0 9 = nI p → rI μ 1 0 10 = nI q → rI μ 1 0 11 = nI mv → ((i = 0 ∧ bm = -1) ∨ (0 < i ∧ 0 ≤ bm.toInt)) → (v = 0 → 0 < i → rI μ 1 0 3 = bm) →
      ∃ x μ' ν', X0_play_L36 (X0_playN n) fu (nI v) fl b (nI i) μ = some (x, μ') ∧ X12_plays_L73 (X12_playsN n) fu (nI p) (nI q) (nI v) (nI mv) fl (nI z) b bm (nI i) ν = some (x, ν') ∧ kP v μ μ' ∧ mH v ν ν' ∧ (v = 0 → rI μ' 1 0 3 = rI ν' 13 0 37)
  | 0, i, fu + 1, μ, ν, b, bm, h, _, R, a, sv, q9, q10, q11, hb, h3 => by
    have eX : X0_play_L36 (X0_playN n) (fu + 1) (nI v) fl b (nI i) μ = some (b, μ) := by
      unfold X0_play_L36
      rw [if_pos (show (2 : Int32) < nI i from nI_lt (a := 2) (by omega) (by omega))]
    by_cases c : v = 0
    · refine ⟨b, μ, wI ν 13 0 37 bm, eX, ?_, kP_r v μ, ⟨fun j hj => by rw [rI_k (by decide)], fun j hj => by rw [rI_k (by decide)], fun j hj => by rw [rI_k (by decide)], kM_wI (Or.inl rfl) kM_r, by rw [rI_j (by decide)]⟩, fun _ => by rw [rI_s]; exact h3 c (by omega)⟩
      unfold X12_plays_L73
      rw [if_pos (show (3 : Int32) ≤ nI i from nI_le (a := 3) (by omega) (by omega)), if_pos (by rw [c, nI_0])]
    · refine ⟨b, μ, ν, eX, ?_, kP_r v μ, mH_r v ν, fun q => absurd q c⟩
      unfold X12_plays_L73
      rw [if_pos (show (3 : Int32) ≤ nI i from nI_le (a := 3) (by omega) (by omega)), if_neg (nI_ne0 (by omega) (by omega))]
  | k + 1, i, fu + 1, μ, ν, b, bm, h, hf, R, a, sv, q9, q10, q11, hb, h3 => by
    obtain ⟨y, μ3, ν2, f', e1, fr, R3, ok3, a3, s6, kk, k3, K1, eX⟩ := playX hB (rec := X0_playN n) (i := i) (fu := fu) (fl := fl) (b := b) hv (by omega) R ok a (by omega) hm hz z6 (by
      rw [q9, q10, em]
      by_cases w : fl = 0
      · rw [if_pos w, if_pos w]
      · rw [if_neg w, if_neg w])
    obtain ⟨x, μ4, ν4, y1, y2, y3, y4⟩ := IH f' μ3 ν2 R3 ok3 a3 (by omega) (kk 1 (by omega)) ((K1 9).trans q9) ((K1 10).trans q10) ((K1 11).trans q11)
    obtain ⟨ν5, e5, m5, s5⟩ := iterP hv (by omega) sv fr y4
    have K4 : kP v μ μ4 := ⟨keep_t k3 (keep_m y3.1 nH_s), y3.2.1.trans (K1 9), y3.2.2.1.trans (K1 10), y3.2.2.2.1.trans (K1 11), fun _ => (y3.2.2.2.2 (by omega)).trans (K1 3)⟩
    have ri : ∀ {μ' : sM}, keep (nH v) μ μ' → Riv μ' (4 + v) f := fun {μ'} K => Riv_c R (fun a j ha => ⟨(K a (4 + v) (nH_r ha (by omega)) j).1, (K a (4 + v) (nH_r ha (by omega)) j).2.1⟩) (fun _ _ => rfl) ok.1.1.2 ok.1.2.1.2 ok.1.2.2.2
    have eM := playM (fu := fu) (by omega) z6 a hb e1 y2 e5 (fl := fl) (b := b)
    rw [eX x μ4 y1, eM]
    have ti := nI_toInt (n := i) (by omega)
    by_cases c : tak i fl x b
    · rw [if_pos c, if_pos c]
      have K5 : kP v μ (if v = 0 then wI μ4 1 0 3 (nI i) else μ4) := by
        by_cases w : v = 0
        · rw [if_pos w]
          exact ⟨keep_wI rfl K4.1, by rw [rI_j (by decide)]; exact K4.2.1, by rw [rI_j (by decide)]; exact K4.2.2.1, by rw [rI_j (by decide)]; exact K4.2.2.2.1, fun q => absurd w q⟩
        · rw [if_neg w]
          exact K4
      obtain ⟨x', μ', ν', z1, z2, z3, z4, z5⟩ := plL hB hv ok h6 hm hz z6 em IH k (i + 1) fu _ ν5 x (nI i) (by omega) (by omega) (ri K5.1) (fun j hj => by rw [m5.1 j (by omega)]; exact a j hj) s5 (K5.2.1.trans q9) (K5.2.2.1.trans q10) (K5.2.2.2.1.trans q11) (Or.inr ⟨by omega, by omega⟩) (fun w _ => by rw [if_pos w, rI_s])
      exact ⟨x', μ', ν', z1, z2, kP_t K5 z3, mH_t m5 z4, z5⟩
    · rw [if_neg c, if_neg c]
      have i0 : 0 < i := by
        rcases Nat.eq_zero_or_pos i with w | w
        · exact absurd (Or.inl w) c
        · exact w
      obtain ⟨x', μ', ν', z1, z2, z3, z4, z5⟩ := plL hB hv ok h6 hm hz z6 em IH k (i + 1) fu μ4 ν5 b bm (by omega) (by omega) (ri K4.1) (fun j hj => by rw [m5.1 j (by omega)]; exact a j hj) s5 (K4.2.1.trans q9) (K4.2.2.1.trans q10) (K4.2.2.2.1.trans q11) (Or.inr ⟨by omega, by omega⟩) (fun w _ => by rw [(y3.2.2.2.2 (by omega)).trans (K1 3)]; exact h3 w i0)
      exact ⟨x', μ', ν', z1, z2, kP_t K4 z3, mH_t m5 z4, z5⟩
theorem pl (hB : 0 ≤ B ∧ B ≤ 900000000) {mv p q : Nat} (hmv : mv ≤ 4) : ∀ (d n v : Nat) (f : Nat → Int32) (μ ν : sM), d < n → v + d = mv → Riv μ (4 + v) f → OkR B f → ag ν f → (f 6).toInt + d ≤ 10100 → (p : Int) < (f 1).toInt → (q : Int) < (f 1).toInt → rI μ 1 0 9 = nI p → rI μ 1 0 10 = nI q → rI μ 1 0 11 = nI mv →
    ∃ x μ' ν', X0_playN n (nI v) μ = some (x, μ') ∧ X12_playsN n (nI p) (nI q) (nI v) (nI mv) ν = some (x, ν') ∧ kP v μ μ' ∧ mH v ν ν' ∧ (v = 0 → 0 < d → rI μ' 1 0 3 = rI ν' 13 0 37)
  | 0, n + 1, v, f, μ, ν, _, hv, R, ok, a, h6, hp, hq, q9, q10, q11 => by
    have c1 := ok.1.2.1
    unfold rg at c1
    have rp := (R.2.2.2.1 p hp).2.2
    have rq := (R.2.2.2.1 q hq).2.2
    refine ⟨f (46 + p) - f (46 + q), μ, ν, ?_, ?_, kP_r v μ, mH_r v ν, fun _ w => by omega⟩
    · show X0_play_ (X0_playN n) (nI v) μ = _
      unfold X0_play_ X0_leadOf
      rw [q11, if_neg (nI_nlt (by omega) (by omega)), if_pos (inb_nI (by omega) (by omega)), q9, q10, if_pos (inb_nI (by omega) (by omega)), if_pos (inb_nI (by omega) (by omega)), ix_nI (by omega), ix_nI (by omega), ix_nI (by omega), rp, rq, bI_s]
    · show X12_plays_ (X12_playsN n) (nI p) (nI q) (nI v) (nI mv) ν = _
      unfold X12_plays_
      rw [if_pos (by rw [show v = mv by omega]), l46, l46, if_pos (inb_nI (by omega) (by omega)), if_pos (inb_nI (by omega) (by omega)), ix_nI (by omega), ix_nI (by omega), a (46 + p) (by omega), a (46 + q) (by omega)]
  | d + 1, n + 1, v, f, μ, ν, hdn, hv, R, ok, a, h6, hp, hq, q9, q10, q11 => by
    have c1 := ok.1.2.1
    unfold rg at c1
    have ne' : ¬ nI v = nI mv := fun q => by rw [nI_eq (by omega) (by omega)] at q; omega
    obtain ⟨fl, hfl⟩ : ∃ fl : Int32, fl = if irm (nI v) 2 = 0 then 1 else 0 := ⟨_, rfl⟩
    obtain ⟨m, hm⟩ : ∃ m : Nat, m = if fl = 0 then q else p := ⟨_, rfl⟩
    have mf : (m : Int) < (f 1).toInt := by
      rw [hm]
      by_cases w : fl = 0
      · rw [if_pos w]; exact hq
      · rw [if_neg w]; exact hp
    have hzr := ok.2.2.2.2.1 m mf
    have c0 := ok.1.1
    unfold rg at c0
    obtain ⟨z, hz, z6, hz'⟩ := seg_nI hzr.1 (n := 6) (by omega) (by omega)
    obtain ⟨x, μ', ν', y1, y2, y3, y4, y5⟩ := plL hB (v := v) (d := d) (n := n) (mv := mv) (by omega) ok (by omega) mf hz z6 hm (fun f' μ ν R ok a h6 e1 q9 q10 q11 => by
      obtain ⟨x, μ', ν', w1, w2, w3, w4, -⟩ := pl hB hmv d n (v + 1) f' μ ν (by omega) (by omega) (by rw [show 4 + (v + 1) = 5 + v by omega]; exact R) ok a h6 (by rw [e1]; exact hp) (by rw [e1]; exact hq) q9 q10 q11
      exact ⟨x, μ', ν', w1, w2, w3, w4⟩) 3 0 fuN μ (sC ν 67 0 (fun j => if 76 * v ≤ j ∧ j < 76 * v + 76 then rI ν 61 0 (j - 76 * v) else rI ν 67 0 j)) 0 (-1) (by omega) (fuN_6 (by omega)) R (fun j hj => by rw [sC_k (by decide)]; exact a j hj) (fun j hj => by rw [sC_s, if_pos (by omega), sC_k (by decide), show 76 * v + j - 76 * v = j by omega]) q9 q10 q11 (Or.inl ⟨rfl, rfl⟩) (fun _ w => by omega)
    rw [nI_0] at y1 y2
    refine ⟨x, μ', ν', ?_, ?_, y3, mH_t ⟨fun j hj => by rw [sC_k (by decide)], fun j hj => by rw [sC_s, if_neg (by omega)], fun j hj => by rw [sC_k (by decide)], kM_sC (fun j hq => by exact absurd hq (by rw [show qB 67 0 j = false from rfl]; simp)) kM_r, by rw [sC_k (by decide)]⟩ y4, fun w _ => y5 w⟩
    · show X0_play_ (X0_playN n) (nI v) μ = _
      unfold X0_play_ X0_play_J30
      rw [q11, if_pos (nI_lt (by omega) (by omega)), ← y1, hfl]
      by_cases w : irm (nI v) 2 = 0
      · rw [if_pos w, if_pos w]
      · rw [if_neg w, if_neg w]
    · show X12_plays_ (X12_playsN n) (nI p) (nI q) (nI v) (nI mv) ν = _
      have e34 : (34 : Int32) + nI m = nI (34 + m) := l34 m
      have m6 : m < 6 := by omega
      have key : X12_plays_J37 (X12_playsN n) (nI p) (nI q) (nI v) (nI mv) fl ν = X12_plays_J55 (X12_playsN n) (nI p) (nI q) (nI v) (nI mv) fl (nI m) 34 ν := by
        unfold X12_plays_J37
        rw [hm]
        by_cases w : fl = 0
        · rw [if_pos w, if_pos w]
        · rw [if_neg w, if_neg w]
      have key2 : X12_plays_J55 (X12_playsN n) (nI p) (nI q) (nI v) (nI mv) fl (nI m) 34 ν = some (x, ν') := by
        unfold X12_plays_J55
        rw [e34, if_pos (inb_nI (by omega) (by omega)), ix_nI (by omega), lays_e (by omega), bV_s, a (34 + m) (by omega), hz, y2]
      unfold X12_plays_
      rw [if_neg ne', ← key2, ← key, hfl]
      by_cases w : irm (nI v) 2 = 0
      · rw [if_pos w, if_pos w]
      · rw [if_neg w, if_neg w]
theorem whyGame_e (h : Rel B μ ν) (a b c lo : Int32) (hlo : lo = 0 ∨ lo = 1) {ν1 : sM} (e : rI ν1 61 0 1 = rI ν 61 0 1) : X12_whyNoGame a b c lo ν1 = some (if (0 ≤ a.toInt ∧ a.toInt < (rI ν 61 0 1).toInt) ∧ (0 ≤ b.toInt ∧ b.toInt < (rI ν 61 0 1).toInt) then (if ¬ a = b ∧ lo.toInt ≤ c.toInt ∧ c.toInt ≤ 4 then 0 else 5) else 2, ν1) := by
  obtain ⟨-, hR, ok, h9, hx⟩ := Rel_i h
  have u := ok.1.2.1
  unfold rg at u
  unfold X12_whyNoGame
  rw [isM_e _ _ (by rw [e]; omega), bI_s, e]
  by_cases c1 : 0 ≤ a.toInt ∧ a.toInt < (rI ν 61 0 1).toInt
  · rw [if_pos c1, if_neg n10, isM_e _ _ (by rw [e]; omega), bI_s, e]
    by_cases c2 : 0 ≤ b.toInt ∧ b.toInt < (rI ν 61 0 1).toInt
    · rw [if_pos c2, if_neg n10, if_pos (show (0 ≤ a.toInt ∧ a.toInt < (rI ν 61 0 1).toInt) ∧ (0 ≤ b.toInt ∧ b.toInt < (rI ν 61 0 1).toInt) from ⟨c1, c2⟩)]
      by_cases c3 : a = b
      · rw [if_pos c3, if_neg (show ¬ (¬ a = b ∧ lo.toInt ≤ c.toInt ∧ c.toInt ≤ 4) from fun q => q.1 c3)]
      · rw [if_neg c3, isIn_i, bI_s, tX, show (4 : Int64).toInt = 4 from rfl]
        by_cases c4 : lo.toInt ≤ c.toInt ∧ c.toInt ≤ 4
        · rw [if_pos c4, if_neg n10, if_pos (show ¬ a = b ∧ lo.toInt ≤ c.toInt ∧ c.toInt ≤ 4 from ⟨c3, c4⟩)]
        · rw [if_neg c4, if_pos rfl, if_neg (show ¬ (¬ a = b ∧ lo.toInt ≤ c.toInt ∧ c.toInt ≤ 4) from fun q => c4 q.2)]
    · rw [if_neg c2, if_pos rfl, if_neg (show ¬ ((0 ≤ a.toInt ∧ a.toInt < (rI ν 61 0 1).toInt) ∧ (0 ≤ b.toInt ∧ b.toInt < (rI ν 61 0 1).toInt)) from fun q => c2 q.2)]
  · rw [if_neg c1, if_pos rfl, if_neg (show ¬ ((0 ≤ a.toInt ∧ a.toInt < (rI ν 61 0 1).toInt) ∧ (0 ≤ b.toInt ∧ b.toInt < (rI ν 61 0 1).toInt)) from fun q => c1 q.1)]
theorem lead2 (hB : 0 ≤ B ∧ B ≤ 900000000) (h : Rel B μ ν) {p q mv : Nat} (hmv : mv ≤ 4) (hp : (p : Int) < (rI ν 61 0 1).toInt) (hq : (q : Int) < (rI ν 61 0 1).toInt) : ∃ x μ' ν', X0_bestLead 0 (nI p) (nI q) (nI mv) μ = some (x - (rI ν 61 0 (46 + p) - rI ν 61 0 (46 + q)), μ') ∧ X12_plays (nI p) (nI q) 0 (nI mv) (m0 ν) = some (x, ν') ∧ (0 < mv → rI μ' 1 0 3 = rI ν' 13 0 37) ∧ Rel (B + 2000) (wI μ' 12 0 0 0) ν' := by
  obtain ⟨-, hR, ok, h9, hx⟩ := Rel_i h
  have u := ok.1.2.1
  unfold rg at u
  have em : imn (nI mv) 4 = nI mv := by
    apply Int32.toInt_inj.mp
    have := nI_toInt (n := mv) (by omega)
    rw [tmn, show (4 : Int32).toInt = 4 from rfl]
    omega
  have k0 : keep nA μ (wI (wI (wI (wI μ 1 0 9 (nI p)) 1 0 10 (nI q)) 1 0 11 (nI mv)) 1 0 3 (-1)) := keep_wI rfl (keep_wI rfl (keep_wI rfl (keep_wI rfl keep_r)))
  obtain ⟨μ1, e1, R1, k1⟩ := copy4 (Riv_A hR ok k0) ok
  have kr : keep (nR 4) (wI (wI (wI (wI μ 1 0 9 (nI p)) 1 0 10 (nI q)) 1 0 11 (nI mv)) 1 0 3 (-1)) μ1 := X4_copyFrom_fr 4 0 _ μ1 (by
    unfold X0_copyOf at e1
    obtain ⟨ρ, w, w2⟩ := bV_inv e1
    cases w2
    exact w)
  have a0 : ag (m0 ν) (rI ν 61 0) := fun j hj => by rw [m0_k (by decide)]
  have q9 : rI μ1 1 0 9 = nI p := by rw [kf kr rfl, rI_j (by decide), rI_j (by decide), rI_j (by decide), rI_s]
  have q10 : rI μ1 1 0 10 = nI q := by rw [kf kr rfl, rI_j (by decide), rI_j (by decide), rI_s]
  obtain ⟨x, μ', ν', x1, x2, x3, x4, x5⟩ := pl hB (p := p) (q := q) hmv mv 6 0 (rI ν 61 0) μ1 (m0 ν) (by omega) (by omega) R1 ok a0 (by omega) hp hq q9 q10 (by rw [kf kr rfl, rI_j (by decide), rI_s])
  rw [nI_0] at x1 x2
  have Q : kq qB μ μ' := by
    refine kq_t (kq_k (keep_t k0 k1) qB_A) (kq_k x3.1 (fun k i j hq => ?_))
    have z := qB_A k i j hq
    unfold nA at z
    unfold nH
    simp only [Bool.not_eq_true', Bool.or_eq_false_iff, Bool.and_eq_false_iff] at z ⊢
    refine ⟨z.1, z.2.1, z.2.2.1, z.2.2.2.elim Or.inl (fun y => Or.inr ?_)⟩
    apply Bool.eq_false_iff.mpr
    intro q
    rw [Nat.ble_eq] at q
    rw [Nat.ble_eq_true_of_le (show 4 ≤ i by omega)] at y
    cases y
  have r27 : ∀ j : Nat, (j : Int) < (rI ν 61 0 1).toInt → rI μ' 27 0 j = rI ν 61 0 (46 + j) := fun j hj => by
    rw [(x3.1 27 0 (nH_r rfl (by omega)) j).1, (k1 27 0 (nA_r (by omega) rfl) j).1, (k0 27 0 (nA_r (by omega) rfl) j).1]
    exact (hR.2.2.2.1 j hj).2.2
  refine ⟨x, μ', ν', ?_, x2, fun w => x5 rfl w, Rel_k h Q (kM_t (kM_q m0_q) x4.2.2.2.1) (fun j hj => by rw [x4.1 j hj, m0_k (by decide)]) (by rw [x4.2.2.2.2, rI_s])⟩
  unfold X0_bestLead X0_play X0_leadOf
  rw [em, e1, bA_s, x1, bI_s, x3.2.1, x3.2.2.1, q9, q10, if_pos (inb_nI (by omega) (by omega)), if_pos (inb_nI (by omega) (by omega)), ix_nI (by omega), ix_nI (by omega), r27 p hp, r27 q hq, bI_s]
theorem m_game (hB : 0 ≤ B ∧ B ≤ 900000000) (a b c : Int32) : BoI B (X11_game a b c) (X12_game a b c) := fun μ ν h => by
  obtain ⟨-, hR, ok, h9, hx⟩ := Rel_i h
  have u := ok.1.2.1
  unfold rg at u
  unfold X11_game X12_game
  rw [hasM_e, bI_s, hR.1.2.1, whyGame_e h a b c 0 (Or.inl rfl) (rI_k (by decide)), bI_s]
  by_cases c1 : 0 ≤ a.toInt ∧ a.toInt < (rI ν 61 0 1).toInt
  · rw [if_pos c1, if_neg n10, hasM_e, bI_s, hR.1.2.1]
    by_cases c2 : 0 ≤ b.toInt ∧ b.toInt < (rI ν 61 0 1).toInt
    · rw [if_pos c2, if_neg n10, if_pos (show (0 ≤ a.toInt ∧ a.toInt < (rI ν 61 0 1).toInt) ∧ (0 ≤ b.toInt ∧ b.toInt < (rI ν 61 0 1).toInt) from ⟨c1, c2⟩), t0]
      simp only [lt_i, le_i, t0, show (4 : Int32).toInt = 4 from rfl]
      by_cases c3 : ¬ a = b ∧ 0 ≤ c.toInt ∧ c.toInt ≤ 4
      · obtain ⟨p, rfl, hp, hp'⟩ := seg_nI c1.1 (n := 6) (by omega) (by omega)
        obtain ⟨q, rfl, hq, hq'⟩ := seg_nI c2.1 (n := 6) (by omega) (by omega)
        obtain ⟨mv, rfl, hm, hm'⟩ := seg_nI (a := c) c3.2.1 (n := 5) (by omega) (by omega)
        obtain ⟨x, μ', ν', x1, x2, x3, x4⟩ := lead2 hB h (p := p) (q := q) (mv := mv) (by omega) (by omega) (by omega)
        refine ⟨x - (rI ν 61 0 (46 + p) - rI ν 61 0 (46 + q)), _, _, ?_, ?_, x4⟩
        · rw [if_neg c3.1, if_neg (show ¬ (nI mv).toInt < 0 by omega), if_pos c3.2.2, x1, bI_s]; rfl
        · rw [if_pos c3, if_pos (show (0 : Int32).toInt ≤ 0 by decide +kernel), l46, l46, if_pos (inb_nI (by omega) (by omega)), if_pos (inb_nI (by omega) (by omega)), x2, bI_s, ix_nI (by omega), ix_nI (by omega), rI_k (by decide), rI_k (by decide)]
      · refine ⟨-1, _, _, ?_, ?_, re_1 h 5⟩
        · by_cases d : a = b
          · rw [if_pos d]; rfl
          · rw [if_neg d]
            by_cases e : c.toInt < 0
            · rw [if_pos e]; rfl
            · rw [if_neg e, if_neg (fun q => c3 ⟨d, by omega, q⟩)]; rfl
        · rw [if_neg c3]; rfl
    · refine ⟨-1, _, _, by rw [if_neg c2]; rfl, ?_, re_1 h 2⟩
      rw [if_neg (show ¬ ((0 ≤ a.toInt ∧ a.toInt < (rI ν 61 0 1).toInt) ∧ (0 ≤ b.toInt ∧ b.toInt < (rI ν 61 0 1).toInt)) from fun q => c2 q.2)]; rfl
  · refine ⟨-1, _, _, by rw [if_neg c1]; rfl, ?_, re_1 h 2⟩
    rw [if_neg (show ¬ ((0 ≤ a.toInt ∧ a.toInt < (rI ν 61 0 1).toInt) ∧ (0 ≤ b.toInt ∧ b.toInt < (rI ν 61 0 1).toInt)) from fun q => c1 q.1)]; rfl
theorem m_moveOf (hB : 0 ≤ B ∧ B ≤ 900000000) (a b c : Int32) : BoI B (X11_moveOf a b c) (X12_moveOf a b c) := fun μ ν h => by
  obtain ⟨-, hR, ok, h9, hx⟩ := Rel_i h
  have u := ok.1.2.1
  unfold rg at u
  unfold X11_moveOf X12_moveOf
  rw [hasM_e, bI_s, hR.1.2.1, whyGame_e h a b c 1 (Or.inr rfl) (rI_k (by decide)), bI_s]
  by_cases c1 : 0 ≤ a.toInt ∧ a.toInt < (rI ν 61 0 1).toInt
  · rw [if_pos c1, if_neg n10, hasM_e, bI_s, hR.1.2.1]
    by_cases c2 : 0 ≤ b.toInt ∧ b.toInt < (rI ν 61 0 1).toInt
    · rw [if_pos c2, if_neg n10, if_pos (show (0 ≤ a.toInt ∧ a.toInt < (rI ν 61 0 1).toInt) ∧ (0 ≤ b.toInt ∧ b.toInt < (rI ν 61 0 1).toInt) from ⟨c1, c2⟩), t1]
      simp only [lt_i, le_i, t0, t1, show (4 : Int32).toInt = 4 from rfl]
      by_cases c3 : ¬ a = b ∧ 1 ≤ c.toInt ∧ c.toInt ≤ 4
      · obtain ⟨p, rfl, hp, hp'⟩ := seg_nI c1.1 (n := 6) (by omega) (by omega)
        obtain ⟨q, rfl, hq, hq'⟩ := seg_nI c2.1 (n := 6) (by omega) (by omega)
        obtain ⟨mv, rfl, hm, hm'⟩ := seg_nI (a := c) (by omega) (n := 5) (by omega) (by omega)
        obtain ⟨x, μ', ν', x1, x2, x3, x4⟩ := lead2 hB h (p := p) (q := q) (mv := mv) (by omega) (by omega) (by omega)
        refine ⟨rI ν' 13 0 37, _, _, ?_, ?_, x4⟩
        · rw [if_neg c3.1, if_neg (show ¬ (nI mv).toInt < 1 by omega), if_pos c3.2.2, x1, bI_s, x3 (by omega)]; rfl
        · rw [if_pos c3, if_pos (show (0 : Int32).toInt ≤ 0 by decide +kernel), x2, bI_s]
      · refine ⟨-1, _, _, ?_, ?_, re_1 h 5⟩
        · by_cases d : a = b
          · rw [if_pos d]; rfl
          · rw [if_neg d]
            by_cases e : c.toInt < 1
            · rw [if_pos e]; rfl
            · rw [if_neg e, if_neg (fun q => c3 ⟨d, by omega, q⟩)]; rfl
        · rw [if_neg c3]; rfl
    · refine ⟨-1, _, _, by rw [if_neg c2]; rfl, ?_, re_1 h 2⟩
      rw [if_neg (show ¬ ((0 ≤ a.toInt ∧ a.toInt < (rI ν 61 0 1).toInt) ∧ (0 ≤ b.toInt ∧ b.toInt < (rI ν 61 0 1).toInt)) from fun q => c2 q.2)]; rfl
  · refine ⟨-1, _, _, by rw [if_neg c1]; rfl, ?_, re_1 h 2⟩
    rw [if_neg (show ¬ ((0 ≤ a.toInt ∧ a.toInt < (rI ν 61 0 1).toInt) ∧ (0 ≤ b.toInt ∧ b.toInt < (rI ν 61 0 1).toInt)) from fun q => c1 q.1)]; rfl
end C98
