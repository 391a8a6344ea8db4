/-! 94: dryIn, floodIn, stillIn -/
section C94
variable {B : Int} {μ ν : sM}
theorem any_e {x : Int32} (hx : x = -1 ∨ 0 ≤ x.toInt) (μ : sM) : X11_giveIfAny x μ = some (x, wI μ 12 0 0 (if 0 ≤ x.toInt then 0 else 8)) := by
  unfold X11_giveIfAny
  by_cases c : x = -1
  · rw [if_pos c, c, if_neg (show ¬ 0 ≤ (-1 : Int32).toInt by decide +kernel)]
    rfl
  · have d : 0 ≤ x.toInt := hx.resolve_left c
    rw [if_neg c, if_pos d]
    rfl
theorem m1_n : ¬ (0 : Int32) ≤ -1 := by decide +kernel
theorem dry_l (hB : 0 ≤ B ∧ B ≤ 900000000) {p : Nat} (hp : p < 6) : ∀ (k i fu : Nat) (μ ν : sM), i + k = 501 → k + 1 < fu → Rv B μ 4 ν → (p : Int) < (rI ν 61 0 0).toInt → (rI ν 61 0 6).toInt + k ≤ 10600 →
    ∃ x μ' ν', X0_hoursTillDry_L9 fu (nI p) 4 (nI i) μ = some (x, μ') ∧ X12_dryIn_L32 fu (nI p) (-1) (nI i) ν = X12_dryIn_J68 x ν' ∧ mfr ν ν' ∧ keep (nQ 4) μ μ' ∧ (x = -1 ∨ 0 ≤ x.toInt)
  | 0, i, fu + 1, μ, ν, h, _, hv, hl, _ => by
    have g : (500 : Int32) < nI i := nI_lt (a := 500) (by omega) (by omega)
    refine ⟨-1, μ, ν, ?_, ?_, mfr_r ν, keep_r, Or.inl rfl⟩
    · unfold X0_hoursTillDry_L9
      rw [if_pos g]
    · unfold X12_dryIn_L32
      rw [if_pos g]
  | k + 1, i, fu + 1, μ, ν, h, hf, hv, hl, h6 => by
    have g : ¬ (500 : Int32) < nI i := nI_nlt (b := i) (a := 500) (by omega) (by omega)
    have e0 := (hv.1.2.2.1 p hl).2.2
    obtain ⟨y, μ1, ν1, e1, e2, R1, s6, -, fr, -, k1⟩ := hour2 hv (by omega) (by omega)
    by_cases c : rI ν 61 0 (28 + p) = 0
    · have tx := nI_toInt (n := i) (by omega)
      have g2 : (0 : Int32) ≤ nI i := nI_pos' (by omega)
      refine ⟨nI i, μ, ν1, ?_, ?_, fr, keep_r, Or.inr (by omega)⟩
      · unfold X0_hoursTillDry_L9
        rw [if_neg g, if_pos (inb_nI hp (by omega)), ix_nI (by omega), e0, if_pos c]
      · obtain ⟨f, rfl⟩ : ∃ f, fu = f + 1 := ⟨fu - 1, by omega⟩
        rw [X12_dryIn_L32]
        rw [if_neg g, if_neg m1_n, l28, if_pos (inb_nI (by omega) (by omega)), ix_nI (by omega), if_pos c]
        unfold X12_dryIn_J57
        rw [e2, bI_s, nI_1]
        unfold X12_dryIn_L32
        by_cases d : (500 : Int32) < nI (i + 1)
        · rw [if_pos d]
        · rw [if_neg d, if_pos g2]
    · obtain ⟨x, μ', ν', a1, a2, a3, a4, a5⟩ := dry_l hB hp k (i + 1) fu μ1 ν1 (by omega) (by omega) R1 (by rw [k1 0 (by omega)]; exact hl) (by omega)
      refine ⟨x, μ', ν', ?_, ?_, mfr_t fr a3, keep_t (X4_passHour_fq 4 μ y μ1 e1) a4, a5⟩
      · unfold X0_hoursTillDry_L9
        rw [if_neg g, if_pos (inb_nI hp (by omega)), ix_nI (by omega), e0, if_neg c, e1, bI_s, nI_1, a1]
      · rw [X12_dryIn_L32]
        rw [if_neg g, if_neg m1_n, l28, if_pos (inb_nI (by omega) (by omega)), ix_nI (by omega), if_neg c]
        unfold X12_dryIn_J57
        rw [e2, bI_s, nI_1, a2]
theorem flood_l (hB : 0 ≤ B ∧ B ≤ 900000000) {p : Nat} (hp : p < 6) : ∀ (k i fu : Nat) (μ ν : sM), i + k = 500 → k + 1 < fu → Rv B μ 4 ν → (p : Int) < (rI ν 61 0 0).toInt → (rI ν 61 0 6).toInt + k ≤ 10600 →
    ∃ x μ' ν', X0_hoursTillFlood_L9 fu (nI p) 4 (nI i) μ = some (x, μ') ∧ X12_floodIn_L32 fu (nI p) (-1) (nI i) ν = X12_floodIn_J65 x ν' ∧ mfr ν ν' ∧ keep (nQ 4) μ μ' ∧ (x = -1 ∨ 0 ≤ x.toInt)
  | 0, i, fu + 1, μ, ν, h, _, hv, hl, _ => by
    have g : (500 : Int32) ≤ nI i := nI_le (a := 500) (by omega) (by omega)
    refine ⟨-1, μ, ν, ?_, ?_, mfr_r ν, keep_r, Or.inl rfl⟩
    · unfold X0_hoursTillFlood_L9
      rw [if_pos g]
    · unfold X12_floodIn_L32
      rw [if_pos g]
  | k + 1, i, fu + 1, μ, ν, h, hf, hv, hl, h6 => by
    have g : ¬ (500 : Int32) ≤ nI i := nI_ge (a := i) (b := 500) (by omega) (by omega)
    obtain ⟨y, μ1, ν1, e1, e2, R1, s6, q1, fr, -, k1⟩ := hour2 hv (by omega) (by omega)
    have e0 := q1 p hl
    by_cases c : rI ν1 66 0 p ≤ 0
    · obtain ⟨x, μ', ν', a1, a2, a3, a4, a5⟩ := flood_l hB hp k (i + 1) fu μ1 ν1 (by omega) (by omega) R1 (by rw [k1 0 (by omega)]; exact hl) (by omega)
      refine ⟨x, μ', ν', ?_, ?_, mfr_t fr a3, keep_t (X4_passHour_fq 4 μ y μ1 e1) a4, a5⟩
      · unfold X0_hoursTillFlood_L9
        rw [if_neg g, e1, bI_s, if_pos (inb_nI hp (by omega)), ix_nI (by omega), e0, if_pos c, nI_1, a1]
      · rw [X12_floodIn_L32]
        rw [if_neg g, if_neg m1_n, e2, bI_s, if_pos (inb_nI hp (by omega)), ix_nI (by omega), if_pos c]
        unfold X12_floodIn_J59
        rw [nI_1, a2]
    · have tx := nI_toInt (n := i) (by omega)
      have g2 : (0 : Int32) ≤ nI i := nI_pos' (by omega)
      refine ⟨nI i, μ1, ν1, ?_, ?_, fr, X4_passHour_fq 4 μ y μ1 e1, Or.inr (by omega)⟩
      · unfold X0_hoursTillFlood_L9
        rw [if_neg g, e1, bI_s, if_pos (inb_nI hp (by omega)), ix_nI (by omega), e0, if_neg c]
      · obtain ⟨f, rfl⟩ : ∃ f, fu = f + 1 := ⟨fu - 1, by omega⟩
        rw [X12_floodIn_L32]
        rw [if_neg g, if_neg m1_n, e2, bI_s, if_pos (inb_nI hp (by omega)), ix_nI (by omega), if_neg c]
        unfold X12_floodIn_J59
        rw [nI_1]
        unfold X12_floodIn_L32
        by_cases d : (500 : Int32) ≤ nI (i + 1)
        · rw [if_pos d]
        · rw [if_neg d, if_pos g2]
theorem j68_e (x : Int32) (hx : x = -1 ∨ 0 ≤ x.toInt) (ν : sM) : X12_dryIn_J68 x ν = (if 0 ≤ x.toInt then some (x, gt ν) else some (x, wI (gt ν) 13 0 0 8)) ∧ X12_floodIn_J65 x ν = (if 0 ≤ x.toInt then some (x, gt ν) else some (x, wI (gt ν) 13 0 0 8)) := by
  unfold X12_dryIn_J68 X12_floodIn_J65
  rw [gives_e, bV_s]
  simp only [le_i, t0]
  by_cases c : 0 ≤ x.toInt
  · rw [if_pos c, if_pos c]
    exact ⟨rfl, rfl⟩
  · rw [if_neg c, if_neg c, hx.resolve_right c]
    exact ⟨rfl, rfl⟩
theorem m_dryIn (hB : 0 ≤ B ∧ B ≤ 900000000) (a : Int32) : BoI B (X11_dryIn a) (X12_dryIn a) := fun μ ν h => by
  obtain ⟨-, hR, ok, h9, hx⟩ := Rel_i h
  have u := ok.1.1
  unfold rg at u
  unfold X11_dryIn X12_dryIn
  rw [hasR_e, bI_s, isR_e _ _ (by rw [m0_k (by decide)]; omega), bI_s, hR.1.1, m0_k (by decide)]
  by_cases c1 : 0 ≤ a.toInt ∧ a.toInt < (rI ν 61 0 0).toInt
  · obtain ⟨p, rfl, hp, hp'⟩ := seg_nI c1.1 (n := 6) (by omega) (by omega)
    obtain ⟨μ1, e1, R1, k1⟩ := look_e h
    have ec : rI (pt (m0 ν)) 61 0 = rI ν 61 0 := funext fun j => by rw [sC_k (by decide), m0_k (by decide)]
    have hv : Rv B μ1 4 (pt (m0 ν)) := ⟨by rw [ec]; exact R1, by rw [ec]; exact ok⟩
    obtain ⟨x, μ', ν', a1, a2, a3, a4, a5⟩ := dry_l hB hp 501 0 fuN μ1 (pt (m0 ν)) (by omega) (fuN_6 (by omega)) hv (by rw [ec]; omega) (by rw [ec]; omega)
    rw [nI_0] at a1 a2
    have K := keep_t k1 (keep_m a4 nR_nQ)
    unfold X0_hoursTillDry
    rw [if_pos c1, if_neg n10, if_neg n10, e1, bA_s, a1, bI_s, any_e a5, bI_s, puts_e, bV_s, a2, (j68_e x a5 ν').1]
    by_cases d : 0 ≤ x.toInt
    · rw [if_pos d, if_pos d]
      exact ⟨x, _, _, rfl, rfl, Rel_a h K a3⟩
    · rw [if_neg d, if_neg d]
      exact ⟨x, _, _, rfl, rfl, Rel_a8 h 8 K a3⟩
  · refine ⟨-1, _, _, ?_, ?_, re_b h 2⟩
    · rw [if_neg c1]; rfl
    · rw [if_neg c1]; rfl
theorem m_floodIn (hB : 0 ≤ B ∧ B ≤ 900000000) (a : Int32) : BoI B (X11_floodIn a) (X12_floodIn a) := fun μ ν h => by
  obtain ⟨-, hR, ok, h9, hx⟩ := Rel_i h
  have u := ok.1.1
  unfold rg at u
  unfold X11_floodIn X12_floodIn
  rw [hasR_e, bI_s, isR_e _ _ (by rw [m0_k (by decide)]; omega), bI_s, hR.1.1, m0_k (by decide)]
  by_cases c1 : 0 ≤ a.toInt ∧ a.toInt < (rI ν 61 0 0).toInt
  · obtain ⟨p, rfl, hp, hp'⟩ := seg_nI c1.1 (n := 6) (by omega) (by omega)
    obtain ⟨μ1, e1, R1, k1⟩ := look_e h
    have ec : rI (pt (m0 ν)) 61 0 = rI ν 61 0 := funext fun j => by rw [sC_k (by decide), m0_k (by decide)]
    have hv : Rv B μ1 4 (pt (m0 ν)) := ⟨by rw [ec]; exact R1, by rw [ec]; exact ok⟩
    obtain ⟨x, μ', ν', a1, a2, a3, a4, a5⟩ := flood_l hB hp 500 0 fuN μ1 (pt (m0 ν)) (by omega) (fuN_6 (by omega)) hv (by rw [ec]; omega) (by rw [ec]; omega)
    rw [nI_0] at a1 a2
    have K := keep_t k1 (keep_m a4 nR_nQ)
    unfold X0_hoursTillFlood
    rw [if_pos c1, if_neg n10, if_neg n10, e1, bA_s, a1, bI_s, any_e a5, bI_s, puts_e, bV_s, a2, (j68_e x a5 ν').2]
    by_cases d : 0 ≤ x.toInt
    · rw [if_pos d, if_pos d]
      exact ⟨x, _, _, rfl, rfl, Rel_a h K a3⟩
    · rw [if_neg d, if_neg d]
      exact ⟨x, _, _, rfl, rfl, Rel_a8 h 8 K a3⟩
  · refine ⟨-1, _, _, ?_, ?_, re_b h 2⟩
    · rw [if_neg c1]; rfl
    · rw [if_neg c1]; rfl
/-! stillIn -/
theorem hour89 {r : Nat} (h : Rv B μ r ν) (hB : 0 ≤ B ∧ B ≤ 1000000000) (h6 : (rI ν 61 0 6).toInt ≤ 10599) {g : Int32} {ν' : sM} (e : X12_goesHour ν = some (g, ν')) : rI ν' 61 0 8 = imx 0 (rI ν 61 0 8 - 1) ∧ rI ν' 61 0 9 = slM (rI ν 61 0 9) (slk (rI ν 61 0 3) (rI ν 61 0 8)) := by
  obtain ⟨hR, ok⟩ := h
  obtain ⟨n, hn, n6, hn'⟩ := rg_nI (b := 6) ok.1.1
  obtain ⟨m, hm, m6, hm'⟩ := rg_nI (b := 6) ok.1.2.1
  obtain ⟨P, hP⟩ : ∃ P : Nat → Int32, P = fun j => if j < n then paF (rI ν 61 0) j else rI ν 65 0 j := ⟨_, rfl⟩
  have hy : Hyp B (rI ν 61 0) P n m := ⟨ok, hn, hm, n6, m6, h6, hB, fun j hj => by rw [hP]; exact if_pos hj⟩
  have e2 := hourM_e n6 m6 hn hm (fun j hj => by
    have z := ok.2.2.2.2.1 j (by omega)
    exact inb_of z.1 (by omega)) P hP
  rw [e] at e2
  have e3 := (Prod.mk.inj (Option.some.inj e2)).2
  rw [e3, nf_c, nf_c]
  exact ⟨hr_8 hy, hr_9 hy⟩
/-- the reference's next turns -/
theorem slack2 (ν : sM) (v o : Int32) : ∃ s, X12_slackNow o ν = some (s, ν) ∧ s = slk (rI ν 61 0 3) o ∧ X12_slackened v s ν = some (slM v s, ν) := by
  unfold X12_slackNow
  by_cases c : o ≤ 0
  · refine ⟨rI ν 61 0 3, by rw [if_pos c], (if_pos c).symm, ?_⟩
    unfold X12_slackened slM
    by_cases d : v ≤ 0
    · rw [if_pos d, if_pos d]
    · rw [if_neg d, if_neg d]
  · refine ⟨(rI ν 61 0 3 + 1) / 2, by rw [if_neg c], (if_neg c).symm, ?_⟩
    unfold X12_slackened slM
    by_cases d : v ≤ 0
    · rw [if_pos d, if_pos d]
    · rw [if_neg d, if_neg d]
theorem slk_c {s o : Int32} (h : rg s 0 9) : (s = 0 → slk s o = 0) ∧ (¬ s = 0 → 1 ≤ (slk s o).toInt ∧ (slk s o).toInt ≤ 9) := by
  have key : ∀ n : Nat, n < 10 → ((nI n = 0 → nI n = 0 ∧ (nI n + 1) / 2 = 0) ∧ (¬ nI n = 0 → (1 ≤ (nI n).toInt ∧ (nI n).toInt ≤ 9) ∧ 1 ≤ ((nI n + 1) / 2).toInt ∧ ((nI n + 1) / 2).toInt ≤ 9)) := by decide +kernel
  obtain ⟨n, rfl, hn, -⟩ := rg_nI (b := 9) h
  obtain ⟨k1, k2⟩ := key n (by omega)
  unfold slk
  by_cases c : o ≤ 0
  · rw [if_pos c]
    exact ⟨fun z => (k1 z).1, fun z => (k2 z).1⟩
  · rw [if_neg c]
    exact ⟨fun z => (k1 z).2, fun z => (k2 z).2⟩
theorem slM_b {v s : Int32} (hv : rg v (-60) 60) : (s = 0 → slM v s = v) ∧ (1 ≤ s.toInt ∧ s.toInt ≤ 9 → (slM v s).toInt = (if v.toInt ≤ 0 then min 0 (v.toInt + s.toInt) else max 0 (v.toInt - s.toInt))) := by
  unfold rg at hv
  unfold slM
  refine ⟨fun z => ?_, fun z => ?_⟩
  · rw [z, Int32.add_zero, Int32.sub_zero]
    by_cases c : v ≤ 0
    · rw [if_pos c]
      apply Int32.toInt_inj.mp
      rw [le_i, t0] at c
      rw [tmn, t0]; omega
    · rw [if_neg c]
      apply Int32.toInt_inj.mp
      rw [le_i, t0] at c
      rw [tmx, t0]; omega
  · by_cases c : v ≤ 0
    · have c' := c
      rw [le_i, t0] at c'
      rw [if_pos c, if_pos c', tmn, tA (by omega) (by omega), t0]
    · have c' := c
      rw [le_i, t0] at c'
      rw [if_neg c, if_neg c', tmx, tS (by omega) (by omega), t0]
/-- a spring that never slackens -/
theorem still_0 : ∀ (k i fu : Nat) (v : Int32) (ν : sM), i + k = 200 → k < fu → ¬ v = 0 → rg v (-60) 60 → rI ν 61 0 3 = 0 → X12_stillIn_L20 fu v (nI i) ν = some (-1, wI ν 13 0 0 8)
  | 0, i, fu + 1, v, ν, h, _, _, _, _ => by
    unfold X12_stillIn_L20
    rw [if_pos (show (200 : Int32) ≤ nI i from nI_le (a := 200) (by omega) (by omega))]
    rfl
  | k + 1, i, fu + 1, v, ν, h, hf, hv, hr, h3 => by
    unfold X12_stillIn_L20
    obtain ⟨s, s1, s2, s3⟩ := slack2 ν v (rI ν 61 0 8 - nI i)
    have sz : s = 0 := by
      rw [s2, h3]
      exact (slk_c ⟨by decide, by decide⟩).1 rfl
    rw [if_neg (show ¬ (200 : Int32) ≤ nI i from nI_ge (b := 200) (by omega) (by omega)), if_neg hv, s1, bI_s, s3, bI_s, nI_1, (slM_b hr).1 sz]
    exact still_0 k (i + 1) fu v ν (by omega) (by omega) hv hr h3
theorem still_l (hB : 0 ≤ B ∧ B ≤ 900000000) (ν0 : sM) (okl : rg (rI ν0 61 0 3) 0 9) (ok8 : rg (rI ν0 61 0 8) 0 12) : ∀ (k i fu : Nat) (μ ν : sM), i + k = 61 → 139 + k < fu → Rv B μ 4 ν → (rI ν 61 0 6).toInt + k ≤ 10600 → rI ν 61 0 3 = rI ν0 61 0 3 → (rI ν 61 0 8).toInt = max 0 ((rI ν0 61 0 8).toInt - i) → (¬ rI ν0 61 0 3 = 0 → ((rI ν 61 0 9).toInt = 0 ∨ (-(60 - (i : Int)) ≤ (rI ν 61 0 9).toInt ∧ (rI ν 61 0 9).toInt ≤ 60 - (i : Int)))) → (i = 61 → ¬ rI ν 61 0 9 = 0) →
    ∃ x μ', X0_hoursTillStill_L8 fu 4 (nI i) μ = some (x, μ') ∧ X12_stillIn_L20 fu (rI ν 61 0 9) (nI i) ν0 = (if 0 ≤ x.toInt then some (x, ν0) else some (x, wI ν0 13 0 0 8)) ∧ keep (nQ 4) μ μ' ∧ (x = -1 ∨ 0 ≤ x.toInt)
  | 0, i, fu + 1, μ, ν, h, hf, hv, _, h3, h8, h9, hz => by
    have g : (60 : Int32) < nI i := nI_lt (a := 60) (by omega) (by omega)
    have hr := hv.2.2.1.2.2.2.2.2.2
    have z := hz (by omega)
    refine ⟨-1, μ, ?_, ?_, keep_r, Or.inl rfl⟩
    · unfold X0_hoursTillStill_L8
      rw [if_pos g]
    · have z0 : rI ν0 61 0 3 = 0 := by
        by_cases y : rI ν0 61 0 3 = 0
        · exact y
        · exfalso
          have := h9 y
          have z' : (rI ν 61 0 9).toInt ≠ 0 := fun q => z (Int32.toInt_inj.mp q)
          omega
      rw [if_neg (by decide +kernel)]
      exact still_0 139 i (fu + 1) _ ν0 (by omega) (by omega) z hr z0
  | k + 1, i, fu + 1, μ, ν, h, hf, hv, h6, h3, h8, h9, hz => by
    have g : ¬ (60 : Int32) < nI i := nI_nlt (b := i) (a := 60) (by omega) (by omega)
    have g2 : ¬ (200 : Int32) ≤ nI i := nI_ge (b := 200) (by omega) (by omega)
    have tx := nI_toInt (n := i) (by omega)
    have e0 := hv.1.1.2.2.2.2.2.2.2.2.2
    have hr := hv.2.2.1.2.2.2.2.2.2
    by_cases c : rI ν 61 0 9 = 0
    · refine ⟨nI i, μ, ?_, ?_, keep_r, Or.inr (by omega)⟩
      · unfold X0_hoursTillStill_L8
        rw [if_neg g, e0, if_pos c]
      · unfold X12_stillIn_L20
        rw [if_neg g2, if_pos c, if_pos (by omega)]
    · obtain ⟨y, μ1, ν1, e1, e2, R1, s6, -, fr, -, k1⟩ := hour2 hv (by omega) (by omega)
      obtain ⟨n8, n9⟩ := hour89 hv (by omega) (by omega) e2
      obtain ⟨s, s1, s2, s3⟩ := slack2 ν0 (rI ν 61 0 9) (rI ν0 61 0 8 - nI i)
      unfold rg at ok8
      have to : (rI ν0 61 0 8 - nI i).toInt = (rI ν0 61 0 8).toInt - i := by rw [tS (by omega) (by omega), tx]
      have es : slk (rI ν 61 0 3) (rI ν 61 0 8) = s := by
        rw [s2, h3]
        unfold slk
        by_cases d : rI ν 61 0 8 ≤ 0
        · have d' := d
          rw [le_i, t0] at d'
          rw [if_pos d, if_pos (by rw [le_i, t0]; omega)]
        · have d' := d
          rw [le_i, t0] at d'
          rw [if_neg d, if_neg (by rw [le_i, t0]; omega)]
      rw [es] at n9
      have cz : (rI ν 61 0 9).toInt ≠ 0 := fun q => c (Int32.toInt_inj.mp q)
      have sb := slk_c (o := rI ν0 61 0 8 - nI i) okl
      rw [← s2] at sb
      have mb := slM_b (s := s) hr
      obtain ⟨x, μ', a1, a2, a3, a4⟩ := still_l hB ν0 okl ok8 k (i + 1) fu μ1 ν1 (by omega) (by omega) R1 (by omega) (by rw [k1 3 (by omega)]; exact h3) (by
          rw [n8, tmx, t0, tS (by rw [t1]; omega) (by rw [t1]; omega), t1]
          omega) (fun q => by
          have b := sb.2 q
          have v := mb.2 b
          have w := h9 q
          rw [n9, v]
          by_cases d : (rI ν 61 0 9).toInt ≤ 0
          · rw [if_pos d]
            omega
          · rw [if_neg d]
            omega) (fun q => by
          by_cases w : rI ν0 61 0 3 = 0
          · rw [n9, mb.1 (sb.1 w)]
            exact c
          · have := h9 w
            omega)
      refine ⟨x, μ', ?_, ?_, keep_t (X4_passHour_fq 4 μ y μ1 e1) a3, a4⟩
      · unfold X0_hoursTillStill_L8
        rw [if_neg g, e0, if_neg c, e1, bI_s, nI_1, a1]
      · unfold X12_stillIn_L20
        rw [if_neg g2, if_neg c, s1, bI_s, s3, bI_s, nI_1, ← n9, a2]
theorem m_stillIn (hB : 0 ≤ B ∧ B ≤ 900000000) : BoI B X11_stillIn X12_stillIn := fun μ ν h => by
  obtain ⟨-, hR, ok, h9, hx⟩ := Rel_i h
  obtain ⟨μ1, e1, R1, k1⟩ := look_e h
  have ec := m0_c ν
  have hv : Rv B μ1 4 (m0 ν) := ⟨by rw [ec]; exact R1, by rw [ec]; exact ok⟩
  have b9 := ok.2.1.2.2.2.2.2.2
  have b8 := ok.2.1.2.2.2.2.2.1
  obtain ⟨x, μ', a1, a2, a3, a4⟩ := still_l hB (m0 ν) (by rw [ec]; exact ok.2.1.1) (by rw [ec]; exact b8) 61 0 fuN μ1 (m0 ν) (by omega) (fuN_6 (by omega)) hv (by rw [ec]; omega) rfl (by
      rw [ec]
      unfold rg at b8
      omega) (fun _ => Or.inr (by
      rw [ec]
      unfold rg at b9
      omega)) (fun q => by omega)
  rw [nI_0, m0_k (by decide)] at a2
  rw [nI_0] at a1
  have K := keep_t k1 (keep_m a3 nR_nQ)
  unfold X11_stillIn X12_stillIn X0_hoursTillStill
  rw [e1, bA_s, a1, bI_s, any_e a4, bI_s, a2]
  by_cases d : 0 ≤ x.toInt
  · rw [if_pos d, if_pos d]
    exact ⟨x, _, _, rfl, rfl, Rel_q h (kq_wI rfl (kq_k K (qB_R (by omega)))) m0_q (by rw [rI_s, rI_s]) (by omega)⟩
  · rw [if_neg d, if_neg d]
    exact ⟨x, _, _, rfl, rfl, Rel_q h (kq_wI rfl (kq_k K (qB_R (by omega)))) (kq_wI rfl m0_q) (by rw [rI_s, rI_s]) (by omega)⟩
end C94
