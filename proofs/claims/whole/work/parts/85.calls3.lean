/-! 85: wind, rule, train, bring, build, lawIn -/
section C85
variable {B : Int} {μ ν : sM}
theorem Rel_w {μ1 ν1 : sM} {f : Nat → Int32} (h : Rel B μ ν) (hR : Riv μ1 0 f) (ok : OkR (B + 2000) f) (h9 : (f 6).toInt ≤ 9999) (a : kq qA μ μ1) (c : kq qA ν ν1) (ec : rI ν1 61 0 = f) (s : rI ν1 13 0 0 = 0) : Rel (B + 2000) (wI μ1 12 0 0 0) ν1 := by
  obtain ⟨-, -, ok0, -, hx⟩ := Rel_i h
  refine Rel_m ?_ ?_ ?_ ?_ (RelX_c hx ok0 (kq_wI rfl a) c (by omega))
  · rw [rI_s, s]
  · rw [ec]
    refine Riv_c hR (fun k b hk => ⟨?_, rfl⟩) (fun _ _ => rfl) ok.1.1.2 ok.1.2.1.2 ok.1.2.2.2
    rw [rI_k (fun q => by rw [q] at hk; cases hk)]
  · rw [ec]; exact ok
  · rw [ec]; exact h9
theorem law_e (h : Rel B μ ν) (ν1 : sM) (e : rI ν1 61 0 6 = rI ν 61 0 6) : X4_isLawDay 0 μ = some (if irm (rI ν 61 0 6 / 24) 7 = 6 then 1 else 0, μ) ∧ X12_isSeventh ν1 = some (if irm (rI ν 61 0 6 / 24) 7 = 6 then 1 else 0, ν1) := by
  obtain ⟨-, hR, -, -, -⟩ := Rel_i h
  have e6 : rI μ 5 0 4 = rI ν 61 0 6 := hR.1.2.2.2.2.2.2.1
  unfold X4_isLawDay X12_isSeventh X12_day
  rw [bI_s, e6, e]
  by_cases c : irm (rI ν 61 0 6 / 24) 7 = 6
  · rw [if_pos c, if_pos c, if_pos c]
    exact ⟨rfl, rfl⟩
  · rw [if_neg c, if_neg c, if_neg c]
    exact ⟨rfl, rfl⟩
theorem m_lawIn : BoI B X11_lawIn X12_lawIn := fun μ ν h => by
  obtain ⟨-, hR, -, -, -⟩ := Rel_i h
  have e6 : rI μ 5 0 4 = rI ν 61 0 6 := hR.1.2.2.2.2.2.2.1
  obtain ⟨l1, l2⟩ := law_e h (m0 ν) (m0_k (by decide))
  unfold X11_lawIn X12_lawIn
  rw [l1, l2, bI_s, bI_s, e6, m0_k (by decide)]
  by_cases c : irm (rI ν 61 0 6 / 24) 7 = 6
  · refine ⟨24 - irm (rI ν 61 0 6) 24, _, _, ?_, ?_, gi_b h⟩
    · rw [if_pos c, if_neg n10]; rfl
    · rw [if_pos c, if_neg n10]
  · refine ⟨0, _, _, ?_, ?_, gi_b h⟩
    · rw [if_neg c, if_pos rfl]; rfl
    · rw [if_neg c, if_pos rfl]
theorem clk_p (q p : Nat) (hq : q < 10) (hp : p < 6) {k : Nat} (hk : clk (16 + 6 * q) = k) : clk (16 + 6 * q + p) = k ∧ clp (16 + 6 * q + p) = p := ⟨(cl_ap q hq p hp).2.trans hk, (cl_ap q hq p hp).1⟩
/-- one winds: both sides' turns -/
theorem turn_e {t s b : Int32} (h1 : -60 ≤ t.toInt) (h2 : t.toInt ≤ 60) (h3 : 1 ≤ s.toInt) (h4 : s.toInt ≤ 40) : (if b = 0 then imn 60 (t + s) else imx (-60) (t - s)) = imx (-60) (imn 60 (t + (if b = 0 then s else -s))) ∧ rg (imx (-60) (imn 60 (t + (if b = 0 then s else -s)))) (-60) 60 := by
  have e60 : (60 : Int32).toInt = 60 := rfl
  have m60 : (-60 : Int32).toInt = -60 := rfl
  by_cases c : b = 0
  · rw [if_pos c, if_pos c]
    have ts : (t + s).toInt = t.toInt + s.toInt := tA (by omega) (by omega)
    refine ⟨Int32.toInt_inj.mp ?_, ?_⟩
    · rw [tmx, tmn, ts, e60, m60]; omega
    · unfold rg
      rw [tmx, tmn, ts, e60, m60]; omega
  · rw [if_neg c, if_neg c]
    have ns : (-s).toInt = -s.toInt := tN (by omega)
    have ts : (t + (-s)).toInt = t.toInt - s.toInt := by rw [tA (by omega) (by omega), ns]; omega
    have td : (t - s).toInt = t.toInt - s.toInt := tS (by omega) (by omega)
    refine ⟨Int32.toInt_inj.mp ?_, ?_⟩
    · rw [tmx, tmx, tmn, ts, td, e60, m60]; omega
    · unfold rg
      rw [tmx, tmn, ts, e60, m60]; omega
/-- the row behind one's winding -/
def wdF (f : Nat → Int32) (p : Nat) (b : Int32) : Nat → Int32 := upd (upd (upd f 9 (imx (-60) (imn 60 (f 9 + (if b = 0 then f (52 + p) else -(f (52 + p))))))) (64 + p) (f (64 + p) + 1)) (70 + p) (f (70 + p) + f (58 + p))
theorem letWind_e {r p : Nat} {b : Int32} {f : Nat → Int32} (hR : Riv μ r f) (ok : OkR B f) (hp : (p : Int) < (f 2).toInt) : ∃ μ', X4_letWind r (nI p) b μ = some μ' ∧ Riv μ' r (wdF f p b) ∧ OkR B (wdF f p b) := by
  have u2 := ok.1.2.2
  unfold rg at u2
  have p6 : p < 6 := by omega
  have hd := hR.2.2.2.2 p hp
  have okw := (ok.2.2.2.2.2 p hp).1
  unfold rg at okw
  have t9 := ok.2.1.2.2.2.2.2.2
  unfold rg at t9
  have i6 : inb (nI p) 6 = true := inb_nI p6 (by omega)
  have e9 : rI μ r = rI μ r := rfl
  have c9 : rI μ 5 r 0 = f 9 := hR.1.2.2.2.2.2.2.2.2.2
  obtain ⟨te, tr⟩ := turn_e (b := b) t9.1 t9.2 okw.1 okw.2
  refine ⟨wI (wI (wI μ 5 r 0 (imx (-60) (imn 60 (f 9 + (if b = 0 then f (52 + p) else -(f (52 + p))))))) 53 r p (f (64 + p) + 1)) 54 r p (f (70 + p) + f (58 + p)), ?_, ?_, ?_⟩
  · unfold X4_letWind X4_letWind_J40 X10_pay
    simp only [i6, ix_nI (show p < 2 ^ 31 by omega), ↓reduceIte, rI_k (show (53 : Nat) ≠ 5 by decide), rI_k (show (54 : Nat) ≠ 5 by decide), rI_k (show (52 : Nat) ≠ 5 by decide), hd.1, hd.2.1, hd.2.2.1, hd.2.2.2, c9, bV_s]
    rw [← te]
    by_cases c : b = 0
    · rw [if_pos c, if_pos c]
    · rw [if_neg c, if_neg c]
  · have z1 := Riv_u (j := 9) (v := imx (-60) (imn 60 (f 9 + (if b = 0 then f (52 + p) else -(f (52 + p)))))) hR ⟨_, ok⟩ (by omega)
    have k1 := OkR_u ok (j := 9) (v := imx (-60) (imn 60 (f 9 + (if b = 0 then f (52 + p) else -(f (52 + p)))))) (Or.inr (Or.inr (Or.inr (Or.inr (Or.inr (Or.inl ⟨rfl, tr⟩))))))
    have z2 := Riv_u (j := 16 + 6 * 8 + p) (v := f (64 + p) + 1) z1 ⟨_, k1⟩ (by omega)
    have k2 := OkR_u k1 (j := 16 + 6 * 8 + p) (v := f (64 + p) + 1) (by unfold okv; omega)
    have z3 := Riv_u (j := 16 + 6 * 9 + p) (v := f (70 + p) + f (58 + p)) z2 ⟨_, k2⟩ (by omega)
    obtain ⟨a1, a2⟩ := clk_p 8 p (by omega) p6 (k := 53) rfl
    obtain ⟨a3, a4⟩ := clk_p 9 p (by omega) p6 (k := 54) rfl
    rw [a1, a2, a3, a4] at z3
    exact z3
  · have k1 := OkR_u ok (j := 9) (v := imx (-60) (imn 60 (f 9 + (if b = 0 then f (52 + p) else -(f (52 + p)))))) (Or.inr (Or.inr (Or.inr (Or.inr (Or.inr (Or.inl ⟨rfl, tr⟩))))))
    have k2 := OkR_u k1 (j := 64 + p) (v := f (64 + p) + 1) (by unfold okv; omega)
    exact OkR_u k2 (j := 70 + p) (v := f (70 + p) + f (58 + p)) (by unfold okv; omega)
theorem windsM_e {p : Nat} {b : Int32} (hp : p < 6) (hl : ¬ irm (rI ν 61 0 6 / 24) 7 = 6) : X12_winds (nI p) b ν = some (1, sC ν 61 0 (wdF (rI ν 61 0) p b)) := by
  have i52 : inb (nI (52 + p)) 1740 = true := inb_nI (by omega) (by omega)
  have i58 : inb (nI (58 + p)) 1740 = true := inb_nI (by omega) (by omega)
  have i64 : inb (nI (64 + p)) 1740 = true := inb_nI (by omega) (by omega)
  have i70 : inb (nI (70 + p)) 1740 = true := inb_nI (by omega) (by omega)
  have x52 : ix (nI (52 + p)) = 52 + p := ix_nI (by omega)
  have x58 : ix (nI (58 + p)) = 58 + p := ix_nI (by omega)
  have x64 : ix (nI (64 + p)) = 64 + p := ix_nI (by omega)
  have x70 : ix (nI (70 + p)) = 70 + p := ix_nI (by omega)
  unfold X12_winds X12_isSeventh X12_day X12_winds_J36 X12_turnsBy
  simp only [bI_s, bV_s, if_neg hl, l52, l58, l64, l70, i52, i58, i64, i70, x52, x58, x64, x70, ↓reduceIte]
  have e : ∀ T : Int32, wI (wI (wI ν 61 0 9 T) 61 0 (64 + p) (rI (wI ν 61 0 9 T) 61 0 (64 + p) + 1)) 61 0 (70 + p) (rI (wI (wI ν 61 0 9 T) 61 0 (64 + p) (rI (wI ν 61 0 9 T) 61 0 (64 + p) + 1)) 61 0 (70 + p) + rI (wI (wI ν 61 0 9 T) 61 0 (64 + p) (rI (wI ν 61 0 9 T) 61 0 (64 + p) + 1)) 61 0 (58 + p)) = sC ν 61 0 (upd (upd (upd (rI ν 61 0) 9 T) (64 + p) (rI ν 61 0 (64 + p) + 1)) (70 + p) (rI ν 61 0 (70 + p) + rI ν 61 0 (58 + p))) := by
    intro T
    rw [rI_j (show 70 + p ≠ 64 + p by omega), rI_j (show 58 + p ≠ 64 + p by omega), rI_j (show 70 + p ≠ 9 by omega), rI_j (show 58 + p ≠ 9 by omega), rI_j (show 64 + p ≠ 9 by omega)]
    rw [wI_asC ν 61 0 9, wI_sC, wI_sC]
  unfold wdF
  by_cases c : b = 0
  · rw [if_pos c, if_pos c, e]
  · rw [if_neg c, if_neg c, e]
theorem wdF_6 (f : Nat → Int32) (p : Nat) (b : Int32) {j : Nat} (h : j ≠ 9 ∧ j < 64) : wdF f p b j = f j := by
  unfold wdF
  rw [upd_n (by omega), upd_n (by omega), upd_n (by omega)]
theorem kqA_wd {p : Nat} {b : Int32} (hp : p < 6) {ν1 : sM} (h : kq qA ν ν1) : kq qA ν (sC ν1 61 0 (wdF (rI ν1 61 0) p b)) := by
  refine kq_sC (fun j hj => ?_) h
  have hj' : j < 3 ∨ 76 ≤ j := by
    rcases Nat.lt_or_ge j 3 with z | z
    · exact Or.inl z
    · rcases Nat.lt_or_ge j 76 with y | y
      · rw [qA_c z y] at hj; cases hj
      · exact Or.inr y
  unfold wdF
  rw [upd_n (by omega), upd_n (by omega), upd_n (by omega)]
  exact (h 61 0 j hj).1
theorem m_wind (a b : Int32) : BoI B (X11_wind a b) (X12_wind a b) := fun μ ν h => by
  obtain ⟨-, hR, ok, h9, hx⟩ := Rel_i h
  have u2 := ok.1.2.2
  unfold rg at u2
  have e2 : rI μ 11 0 0 = rI ν 61 0 2 := hR.1.2.2.1
  obtain ⟨l1, l2⟩ := law_e h (m0 ν) (m0_k (by decide))
  unfold X11_wind X12_wind
  rw [hasW_e, bI_s, isW_e _ _ (by rw [m0_k (by decide)]; omega), bI_s, e2, m0_k (by decide)]
  by_cases c1 : 0 ≤ a.toInt ∧ a.toInt < (rI ν 61 0 2).toInt
  · obtain ⟨p, rfl, hp, hp'⟩ := seg_nI c1.1 (n := 6) (by omega) (by omega)
    rw [if_pos c1, if_neg n10, if_neg n10, l1, bI_s]
    by_cases c2 : irm (rI ν 61 0 6 / 24) 7 = 6
    · refine ⟨-1, _, _, ?_, ?_, re_b h 9⟩
      · rw [if_pos c2, if_neg n10]; rfl
      · unfold X12_winds
        rw [l2, bI_s, if_pos c2, if_neg n10]; rfl
    · rw [if_neg c2, if_pos rfl]
      obtain ⟨μ', e3, R3, k3⟩ := letWind_e (b := b) hR ok (p := p) (by omega)
      have kX := X4_letWind_fq 0 (nI p) b μ μ' e3
      rw [e3, bV_s, windsM_e hp (by rw [m0_k (by decide)]; exact c2), bI_s, if_neg n10, m0_c]
      have t9 : rI μ' 5 0 0 = wdF (rI ν 61 0) p b 9 := R3.1.2.2.2.2.2.2.2.2.2
      refine ⟨wdF (rI ν 61 0) p b 9, _, sC (m0 ν) 61 0 (wdF (rI ν 61 0) p b), ?_, ?_, Rel_w (f := wdF (rI ν 61 0) p b) h R3 (OkR_mono k3 (by omega)) (by rw [wdF_6 _ _ _ (by omega)]; exact h9) (kq_k kX (qA_Q (Or.inl rfl))) ?_ (funext fun j => sC_s) ?_⟩
      · rw [t9]; rfl
      · rw [sC_s]
      · have z := kqA_wd (p := p) (b := b) hp (ν := ν) (ν1 := m0 ν) (kq_wI rfl (kq_wI rfl kq_r))
        rw [m0_c] at z
        exact z
      · rw [sC_k (by decide), rI_s]
  · refine ⟨-1, _, _, ?_, ?_, re_b h 2⟩
    · rw [if_neg c1]; rfl
    · rw [if_neg c1]; rfl
theorem m_rule (a c : Int32) : BoI B (X11_rule a c) (X12_rule a c) := fun μ ν h => by
  have fin : ∀ (k : Nat), k = 3 ∨ k = 4 ∨ k = 5 → ∀ (hi : Int32) (hiL : Int64), hi.toInt = hiL.toInt → (∀ v : Int32, 0 ≤ v.toInt ∧ v.toInt ≤ hi.toInt → okv (B + 2000) (rI ν 61 0) k v) → a = nI k → X11_mostOfRule a μ = some (hi, μ) → (X12_rule a c ν = X12_rule_J52 a c hiL 0 c.toInt64 (m0 ν)) →
      (∃ q, q = clp k ∧ ∀ x, (if a = 3 then X11_rule_J58 (wI μ 5 0 1 x) else if a = 4 then X11_rule_J58 (wI μ 5 0 2 x) else X11_rule_J58 (wI μ 5 0 3 x)) = X11_rule_J58 (wI μ 5 0 q x)) → ∃ b μ' ν', X11_rule a c μ = some (b, μ') ∧ X12_rule a c ν = some (b, ν') ∧ Rel (B + 2000) μ' ν' := by
    intro k hk hi hiL ehi hok ha hm hM hq
    obtain ⟨q, hq1, hq2⟩ := hq
    unfold X11_rule
    rw [hM, hm]
    unfold X12_rule_J52
    rw [isIn_i, bI_s, bI_s, ← ehi, show (0 : Int64).toInt = 0 from rfl, hq2]
    simp only [lt_i, le_i, t0]
    by_cases c1 : 0 ≤ c.toInt ∧ c.toInt ≤ hi.toInt
    · refine ⟨1, _, _, ?_, ?_, Rel_u (s := 0) (v := c) h (j := k) (k := 5) (p := q) (hok c c1) (by rcases hk with rfl | rfl | rfl <;> rfl) hq1.symm (by omega) ?_ (by omega)⟩
      · rw [if_neg (show ¬ c.toInt < 0 by omega), if_pos c1.2]; rfl
      · rw [if_pos c1, if_neg n10, ha, if_pos (inb_nI (by omega) (by omega)), ix_nI (by omega)]
      · rw [hq1]
        rcases hk with rfl | rfl | rfl <;> rfl
    · refine ⟨0, _, _, ?_, ?_, re_b h 5⟩
      · by_cases c3 : c.toInt < 0
        · rw [if_pos c3]; rfl
        · rw [if_neg c3, if_neg (by omega)]; rfl
      · rw [if_neg c1]; rfl
  by_cases a3 : a = 3
  · refine fin 3 (by omega) 9 9 rfl (fun v hv => Or.inl ⟨rfl, hv⟩) (by rw [a3]; rfl) (by unfold X11_mostOfRule; rw [if_pos a3]) ?_ ⟨1, rfl, fun x => by rw [if_pos a3]⟩
    unfold X12_rule
    rw [isIn_i, bI_s, a3]
    rfl
  · by_cases a4 : a = 4
    · refine fin 4 (by omega) 99 99 rfl (fun v hv => Or.inr (Or.inl ⟨rfl, hv⟩)) (by rw [a4]; rfl) (by unfold X11_mostOfRule; rw [if_neg a3, if_pos a4]) ?_ ⟨2, rfl, fun x => by rw [if_neg a3, if_pos a4]⟩
      unfold X12_rule
      rw [isIn_i, bI_s, a4]
      rfl
    · by_cases a5 : a = 5
      · refine fin 5 (by omega) 16 16 rfl (fun v hv => Or.inr (Or.inr (Or.inl ⟨rfl, hv⟩))) (by rw [a5]; rfl) (by unfold X11_mostOfRule; rw [if_neg a3, if_neg a4, if_pos a5]) ?_ ⟨3, rfl, fun x => by rw [if_neg a3, if_neg a4]⟩
        unfold X12_rule
        rw [isIn_i, bI_s, a5]
        rfl
      · refine ⟨0, _, _, ?_, ?_, re_b h 5⟩
        · unfold X11_rule X11_mostOfRule
          rw [if_neg a3, if_neg a4, if_neg a5, bI_s]
          simp only [lt_i, le_i, t0, show (-1 : Int32).toInt = -1 from rfl]
          by_cases c3 : c.toInt < 0
          · rw [if_pos c3]; rfl
          · rw [if_neg c3, if_neg (by omega)]; rfl
        · unfold X12_rule
          rw [isIn_i, bI_s, show (3 : Int64).toInt = 3 from rfl, show (5 : Int64).toInt = 5 from rfl]
          have z : ¬ (3 ≤ a.toInt ∧ a.toInt ≤ 5) := by
            intro z
            rcases (show a.toInt = 3 ∨ a.toInt = 4 ∨ a.toInt = 5 by omega) with q | q | q
            · exact a3 (Int32.toInt_inj.mp q)
            · exact a4 (Int32.toInt_inj.mp q)
            · exact a5 (Int32.toInt_inj.mp q)
          rw [if_neg z]; rfl
theorem m_train (a c : Int32) : BoI B (X11_train a c) (X12_train a c) := fun μ ν h => by
  obtain ⟨-, hR, ok, h9, hx⟩ := Rel_i h
  have u2 := ok.1.2.2
  unfold rg at u2
  have e2 : rI μ 11 0 0 = rI ν 61 0 2 := hR.1.2.2.1
  unfold X11_train X12_train
  rw [hasW_e, bI_s, isW_e _ _ (by rw [m0_k (by decide)]; omega), bI_s, e2, m0_k (by decide)]
  by_cases c1 : 0 ≤ a.toInt ∧ a.toInt < (rI ν 61 0 2).toInt
  · obtain ⟨p, rfl, hp, hp'⟩ := seg_nI c1.1 (n := 6) (by omega) (by omega)
    have i6 : inb (nI p) 6 = true := inb_nI hp (by omega)
    have i52 : inb (nI (52 + p)) 1740 = true := inb_nI (by omega) (by omega)
    rw [if_pos c1, if_neg n10, if_neg n10, isIn_i, bI_s, show (1 : Int64).toInt = 1 from rfl, show (40 : Int64).toInt = 40 from rfl]
    simp only [lt_i, le_i, t1, show (40 : Int32).toInt = 40 from rfl, l52, i6, i52, ix_nI (show p < 2 ^ 31 by omega), ix_nI (show 52 + p < 2 ^ 31 by omega), ↓reduceIte]
    by_cases c2 : 1 ≤ c.toInt ∧ c.toInt ≤ 40
    · obtain ⟨a1, a2⟩ := clk_p 6 p (by omega) hp (k := 51) rfl
      refine ⟨1, _, _, ?_, ?_, Rel_u (s := 0) (v := c) h (j := 52 + p) (k := 51) (p := p) (Or.inr (Or.inr (Or.inr (Or.inr (Or.inr (Or.inr (Or.inr (Or.inr (Or.inr (Or.inl ⟨by omega, by omega, c2⟩)))))))))) a1 a2 (by omega) rfl (by omega)⟩
      · rw [if_neg (show ¬ c.toInt < 1 by omega), if_pos c2.2]; rfl
      · rw [if_pos c2, if_neg n10]
    · refine ⟨0, _, _, ?_, ?_, re_b h 5⟩
      · by_cases c3 : c.toInt < 1
        · rw [if_pos c3]; rfl
        · rw [if_neg c3, if_neg (by omega)]; rfl
      · rw [if_neg c2]; rfl
  · refine ⟨0, _, _, ?_, ?_, re_b h 2⟩
    · rw [if_neg c1]; rfl
    · rw [if_neg c1]; rfl
end C85
