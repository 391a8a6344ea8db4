/-! 89: write, read, pour, copyStored -/
section C89
variable {B : Int} {μ ν : sM}
theorem re_1 (h : Rel B μ ν) (s : Int32) : Rel (B + 2000) (wI μ 12 0 0 s) (wI (wI ν 13 0 1 0) 13 0 0 s) :=
  Rel_q h (kq_wI rfl kq_r) (kq_wI rfl (kq_wI rfl kq_r)) (by rw [rI_s, rI_s]) (by omega)
theorem m1_q : (-1 : Int32).toInt = -1 := rfl
/-- the tray t: missing or not, on both sides -/
theorem miss_e (h : RelT μ ν) {t : Nat} (ht : t < 4) : X7_isMissing (nI t) μ = some (if 0 ≤ (rI ν 58 0 t).toInt then 0 else 1, μ) := by
  unfold X7_isMissing
  rw [if_pos (inb_nI ht (by omega)), ix_nI (by omega), (h t ht).1]
  by_cases c : rI ν 58 0 t = -1
  · rw [if_pos c, c, if_neg (by decide +kernel)]
  · rw [if_neg c]
    rcases (h t ht).2 with z | z
    · exact absurd z c
    · rw [if_pos z.1.1]
theorem place2 (h : RelT μ ν) (a b : Int32) {ν1 : sM} (e : ∀ t, rI ν1 58 0 t = rI ν 58 0 t) : (∃ x : Int32, (x = 1 ∨ x = 3 ∨ x = 4) ∧ X7_whyNoPlace a b μ = some (x, μ) ∧ X12_placed a b ν1 = some (x, ν1)) ∨ (X7_whyNoPlace a b μ = some (0, μ) ∧ X12_placed a b ν1 = some (0, ν1) ∧ ∃ t p : Nat, a = nI t ∧ t < 4 ∧ b = nI p ∧ p < 60 ∧ (p : Int) < (rI ν 58 0 t).toInt) := by
  unfold X7_whyNoPlace X12_placed X12_trayed
  rw [isT_e, bI_s]
  by_cases c1 : 0 ≤ a.toInt ∧ a.toInt < 4
  · obtain ⟨t, rfl, ht, ht'⟩ := seg_nI c1.1 (n := 4) (by omega) (by omega)
    have i4 : inb (nI t) 4 = true := inb_nI ht (by omega)
    have f1 : ¬ (nI t).toInt < 0 := by omega
    rw [if_pos c1, if_neg n10, miss_e h ht, bI_s]
    simp only [le_i, lt_i, t0, show (4 : Int32).toInt = 4 from rfl, f1, c1.2, i4, ↓reduceIte, ix_nI (show t < 2 ^ 31 by omega), e, (h t ht).1]
    by_cases c2 : 0 ≤ (rI ν 58 0 t).toInt
    · rw [if_pos c2, if_pos c2, if_pos rfl, bI_s, if_pos (show (0 : Int32).toInt ≤ 0 by decide +kernel)]
      by_cases c3 : b.toInt < 0
      · left
        refine ⟨4, Or.inr (Or.inr rfl), ?_, ?_⟩
        · rw [if_pos c3]
        · rw [if_pos c3]
      · rw [if_neg c3, if_neg c3]
        by_cases c4 : b.toInt < (rI ν 58 0 t).toInt
        · right
          have z := (h t ht).2
          rcases z with z | z
          · rw [z, m1_q] at c2; omega
          · have zz := z.1
            unfold rg at zz
            obtain ⟨p, rfl, hp, hp'⟩ := seg_nI (a := b) (by omega) (n := 60) (by omega) (by omega)
            exact ⟨by rw [if_pos c4], by rw [e, if_pos c4], t, p, rfl, ht, rfl, hp, by omega⟩
        · left
          exact ⟨4, Or.inr (Or.inr rfl), by rw [if_neg c4], by rw [e, if_neg c4]⟩
    · left
      refine ⟨3, Or.inr (Or.inl rfl), ?_, ?_⟩
      · rw [if_neg c2, if_neg n10]
      · rw [if_neg c2, bI_s, if_neg (by decide +kernel)]
  · left
    refine ⟨1, Or.inl rfl, ?_, ?_⟩
    · rw [if_neg c1, if_pos rfl]
    · simp only [le_i, lt_i, t0, show (4 : Int32).toInt = 4 from rfl]
      by_cases c2 : a.toInt < 0
      · rw [if_pos c2, bI_s, if_neg (by decide +kernel)]
      · rw [if_neg c2, if_neg (by omega), bI_s, if_neg (by decide +kernel)]
theorem m_read (a b : Int32) : BoL B (X11_read a b) (X12_read a b) := fun μ ν h => by
  unfold X11_read X12_read
  rcases place2 h.2.2.1 a b (ν1 := wI ν 13 0 1 0) (fun t => rI_k (by decide)) with ⟨x, hx, e1, e2⟩ | ⟨e1, e2, t, p, rfl, ht, rfl, hp, hl⟩
  · refine ⟨-1, _, _, ?_, ?_, re_1 h x⟩
    · rw [e1, bI_s, if_neg (by rcases hx with rfl | rfl | rfl <;> decide +kernel)]; rfl
    · rw [e2, bI_s, if_neg (by rcases hx with rfl | rfl | rfl <;> decide +kernel)]
  · refine ⟨rL ν 59 0 (60 * t + p), _, _, ?_, ?_, re_1 h 0⟩
    · have z := (h.2.2.1 t ht).2
      rcases z with z | z
      · rw [z, m1_q] at hl; omega
      · rw [e1, bI_s, if_pos rfl, if_pos (inb_nI ht (by omega)), if_pos (inb_nI hp (by omega)), ix_nI (by omega), ix_nI (by omega), Nat.zero_add, z.2.2.2 p hl]
    · rw [e2, bI_s, if_pos (by decide +kernel), l60, if_pos (inb_nI (by omega) (by omega)), ix_nI (by omega)]
      rfl
theorem cut2 (s : Int32) (v : Int64) (μ ν : sM) : ∃ y, X7_cut s v μ = some (y, μ) ∧ X12_cut s v ν = some (y, ν) := by
  unfold X7_cut X12_cut
  by_cases c0 : s = 0
  · exact ⟨_, by rw [if_pos c0], by rw [if_pos c0]⟩
  · by_cases c1 : s = 1
    · exact ⟨_, by rw [if_neg c0, if_pos c1], by rw [if_neg c0, if_pos c1]⟩
    · by_cases c2 : s = 2
      · exact ⟨_, by rw [if_neg c0, if_neg c1, if_pos c2], by rw [if_neg c0, if_neg c1, if_pos c2]⟩
      · exact ⟨_, by rw [if_neg c0, if_neg c1, if_neg c2], by rw [if_neg c0, if_neg c1, if_neg c2]⟩
theorem RelT_w (h : RelT μ ν) {t p : Nat} {y : Int64} (ht : t < 4) (hp : p < 60) : RelT (wL μ 40 t p y) (wL ν 59 0 (60 * t + p) y) := by
  intro u hu
  refine ⟨(h u hu).1, (h u hu).2.elim Or.inl (fun z => Or.inr ⟨z.1, z.2.1, z.2.2.1, fun j hj => ?_⟩)⟩
  have q := z.1
  unfold rg at q
  have hj' : (j : Int) < (rI ν 58 0 u).toInt := hj
  rw [rL_wL, rL_wL]
  by_cases e : u = t ∧ j = p
  · rw [if_pos ⟨rfl, e.2, e.1⟩, if_pos ⟨rfl, by omega, rfl⟩]
  · rw [if_neg (fun w => e ⟨w.2.2, w.2.1⟩), if_neg (fun w => e (by omega))]
    exact z.2.2.2 j hj
/-- one put, on both sides -/
theorem put2 (h : RelT μ ν) {t p : Nat} (v : Int64) (ht : t < 4) (hp : p < 60) (hl : (p : Int) < (rI ν 58 0 t).toInt) : ∃ y, X7_put (nI t) (nI p) v μ = some (wL μ 40 t p y) ∧ X12_write (nI t) (nI p) v ν = some (1, wL (m0 ν) 59 0 (60 * t + p) y) := by
  have z := (h t ht).2
  rcases z with z | z
  · rw [z, m1_q] at hl; omega
  · obtain ⟨y, y1, y2⟩ := cut2 (rI ν 57 0 t) v μ (m0 ν)
    refine ⟨y, ?_, ?_⟩
    · unfold X7_put
      rw [if_pos (inb_nI ht (by omega)), if_pos (inb_nI ht (by omega)), ix_nI (by omega), z.2.1, y1, bL_s, if_pos (inb_nI hp (by omega)), ix_nI (by omega), Nat.zero_add]
    · unfold X12_write
      rcases place2 h (nI t) (nI p) (ν1 := wI ν 13 0 1 0) (fun t => rI_k (by decide)) with ⟨x, hx, e1, e2⟩ | ⟨e1, e2, -⟩
      · exfalso
        have e3 : X7_whyNoPlace (nI t) (nI p) μ = some (0, μ) := by
          unfold X7_whyNoPlace
          have hn := nI_toInt (n := t) (by omega)
          have hm := nI_toInt (n := p) (by omega)
          rw [isT_e, bI_s, if_pos (show 0 ≤ (nI t).toInt ∧ (nI t).toInt < 4 by omega), if_neg n10, miss_e h ht, bI_s, if_pos z.1.1, if_pos rfl, if_neg (by rw [lt_i, t0]; omega), if_pos (inb_nI ht (by omega)), ix_nI (by omega), (h t ht).1, if_pos (by rw [lt_i]; omega)]
        rw [e3] at e1
        have := (Prod.mk.inj (Option.some.inj e1)).1
        rcases hx with rfl | rfl | rfl <;> exact absurd this (by decide +kernel)
      · rw [e2, bI_s, if_pos (by decide +kernel), if_pos (inb_nI ht (by omega)), ix_nI (by omega), rI_k (by decide), y2, bL_s, l60, if_pos (inb_nI (by omega) (by omega)), ix_nI (by omega)]
theorem m_write (a b : Int32) (v : Int64) : BoI B (X11_write a b v) (X12_write a b v) := fun μ ν h => by
  rcases place2 h.2.2.1 a b (ν1 := wI ν 13 0 1 0) (fun t => rI_k (by decide)) with ⟨x, hx, e1, e2⟩ | ⟨e1, e2, t, p, rfl, ht, rfl, hp, hl⟩
  · refine ⟨0, _, _, ?_, ?_, re_1 h x⟩
    · unfold X11_write
      rw [e1, bI_s, if_neg (by rcases hx with rfl | rfl | rfl <;> decide +kernel)]; rfl
    · unfold X12_write
      rw [e2, bI_s, if_neg (by rcases hx with rfl | rfl | rfl <;> decide +kernel)]
  · obtain ⟨y, y1, y2⟩ := put2 h.2.2.1 v ht hp hl
    refine ⟨1, _, _, ?_, y2, Rel_g (μ' := wI (wL μ 40 t p y) 12 0 0 0) (ν' := wL (m0 ν) 59 0 (60 * t + p) y) true false true true h ?_ ?_ ?_ (by simp) (fun _ => ?_) (by simp) (by simp) (by omega)⟩
    · unfold X11_write
      rw [e1, bI_s, if_pos rfl, y1, bV_s]; rfl
    · exact kq_wI rfl (kq_wL q40 kq_r)
    · exact kq_wL rfl (kq_wI rfl (kq_wI rfl kq_r))
    · rw [rI_s, rI_wL, rI_s]
    · exact RelT_c (RelT_w h.2.2.1 ht hp) (kq_wI rfl kq_r) (fun k i j hk => ⟨by rw [rI_wL, rI_wL]; exact m0_k (fun q => by rw [q] at hk; cases hk), rfl⟩)
/-! copyStored -/
theorem copy_l {n t : Nat} (hn : n ≤ 6) (ht : t < 4) : ∀ (k i fu : Nat) (μ ν : sM), i + k = n → k < fu → RelT μ ν → (n : Int) ≤ (rI ν 58 0 t).toInt → rI ν 61 0 0 = nI n → (∀ j : Nat, j < n → rI μ 31 0 j = rI ν 61 0 (28 + j)) → rI ν 13 0 0 = 0 →
    ∃ μ' ν', X11_copyStored_L62 fu (nI t) (nI n) (nI i) μ = some (nI n, wI μ' 12 0 0 0) ∧ X12_copyStored_L62 fu (nI t) (nI i) ν = some (nI n, ν') ∧ RelT μ' ν' ∧ kq (qG true false true true) μ μ' ∧ kq (qG true false true true) ν ν' ∧ rI ν' 13 0 0 = 0
  | 0, i, fu + 1, μ, ν, h, _, hT, hl, hc, hh, h0 => by
    refine ⟨μ, ν, ?_, ?_, hT, kq_r, kq_r, h0⟩
    · unfold X11_copyStored_L62
      rw [if_pos (nI_le (by omega) (by omega))]; rfl
    · unfold X12_copyStored_L62
      rw [hc, if_pos (nI_le (by omega) (by omega))]
  | k + 1, i, fu + 1, μ, ν, h, hf, hT, hl, hc, hh, h0 => by
    obtain ⟨y, y1, y2⟩ := put2 hT (p := i) ((rI ν 61 0 (28 + i)).toInt64) ht (by omega) (by omega)
    have T1 : RelT (wL μ 40 t i y) (wL (m0 ν) 59 0 (60 * t + i) y) := RelT_c (RelT_w hT ht (by omega)) kq_r (fun k i j hk => ⟨by rw [rI_wL, rI_wL]; exact m0_k (fun q => by rw [q] at hk; cases hk), rfl⟩)
    obtain ⟨μ', ν', e1, e2, T2, k1, k2, s⟩ := copy_l hn ht k (i + 1) fu (wL μ 40 t i y) (wL (m0 ν) 59 0 (60 * t + i) y) (by omega) (by omega) T1 (by rw [rI_wL, m0_k (by decide)]; exact hl) (by rw [rI_wL, m0_k (by decide)]; exact hc) (fun j hj => by rw [rI_wL, rI_wL, m0_k (by decide)]; exact hh j hj) (by rw [rI_wL, rI_s])
    refine ⟨μ', ν', ?_, ?_, T2, kq_t (kq_wL q40 kq_r) k1, kq_t (kq_wL rfl (kq_wI rfl (kq_wI rfl kq_r))) k2, s⟩
    · unfold X11_copyStored_L62
      rw [if_neg (nI_ge (by omega) (by omega)), if_pos (inb_nI (by omega) (by omega)), ix_nI (by omega), hh i (by omega), y1, bV_s, nI_1, e1]
    · unfold X12_copyStored_L62
      rw [hc, if_neg (nI_ge (by omega) (by omega)), l28, if_pos (inb_nI (by omega) (by omega)), ix_nI (by omega), y2, bI_s, nI_1, e2]
theorem isTM_e (a : Int32) (ν : sM) : X12_isTray a ν = some (if 0 ≤ a.toInt ∧ a.toInt < 4 then 1 else 0, ν) := by
  unfold X12_isTray
  rw [isIn_i, bI_s, show (0 : Int64).toInt = 0 from rfl, show (3 : Int64).toInt = 3 from rfl]
  by_cases c : 0 ≤ a.toInt ∧ a.toInt < 4
  · rw [if_pos c, if_pos (show 0 ≤ a.toInt ∧ a.toInt ≤ 3 by omega), if_pos (by decide +kernel)]
  · rw [if_neg c, if_neg (show ¬ (0 ≤ a.toInt ∧ a.toInt ≤ 3) by omega), if_pos (by decide +kernel)]
theorem m_copyStored (a : Int32) : BoI B (X11_copyStored a) (X12_copyStored a) := fun μ ν h => by
  obtain ⟨-, hR, ok, h9, hx⟩ := Rel_i h
  have hT := h.2.2.1
  unfold X11_copyStored X12_copyStored
  rw [isT_e, bI_s, isTM_e, bI_s]
  by_cases c1 : 0 ≤ a.toInt ∧ a.toInt < 4
  · obtain ⟨t, rfl, ht, ht'⟩ := seg_nI c1.1 (n := 4) (by omega) (by omega)
    obtain ⟨n, hn, n6, hn'⟩ := rg_nI (b := 6) ok.1.1
    have i4 : inb (nI t) 4 = true := inb_nI ht (by omega)
    have e0 : rI μ 4 0 0 = nI n := hR.1.1.trans hn
    have a0 : rI (m0 ν) 61 0 0 = nI n := (m0_k (by decide)).trans hn
    have a1 : rI (m0 ν) 58 0 t = rI ν 58 0 t := m0_k (by decide)
    rw [if_pos c1, if_neg n10, if_neg n10, miss_e hT ht, bI_s, if_pos i4, if_pos i4, if_pos i4, ix_nI (by omega), a1, a0, e0, (hT t ht).1]
    by_cases c2 : 0 ≤ (rI ν 58 0 t).toInt
    · rw [if_pos c2, if_pos rfl, if_pos (show (0 : Int32) ≤ rI ν 58 0 t by rw [le_i, t0]; exact c2)]
      by_cases c3 : nI n ≤ rI ν 58 0 t
      · have c4 : (n : Int) ≤ (rI ν 58 0 t).toInt := by
          rw [le_i, nI_toInt (by omega)] at c3; exact c3
        obtain ⟨μ', ν', e1, e2, T, k1, k2, s⟩ := copy_l n6 ht n 0 fuN μ (m0 ν) (by omega) (fuN_6 (by omega)) (RelT_c hT kq_r (kq_wI rfl (kq_wI rfl kq_r))) (by rw [a1]; exact c4) a0 (fun j hj => by rw [m0_k (by decide)]; exact (hR.2.2.1 j (by omega)).2.2) rI_s
        rw [nI_0] at e1 e2
        rw [if_pos c3, if_pos c3, e1, e2]
        refine ⟨nI n, _, _, rfl, rfl, Rel_g true false true true h (kq_wI rfl k1) (kq_t (kq_wI rfl (kq_wI rfl kq_r)) k2) (by rw [rI_s, s]) (by simp) (fun _ => RelT_c T (kq_wI rfl kq_r) kq_r) (by simp) (by simp) (by omega)⟩
      · refine ⟨-1, _, _, ?_, ?_, re_b h 4⟩
        · rw [if_neg c3]; rfl
        · rw [if_neg c3]; rfl
    · refine ⟨-1, _, _, ?_, ?_, re_b h 3⟩
      · rw [if_neg c2, if_neg n10]; rfl
      · rw [if_neg (show ¬ (0 : Int32) ≤ rI ν 58 0 t by rw [le_i, t0]; exact c2)]; rfl
  · refine ⟨-1, _, _, ?_, ?_, re_b h 1⟩
    · rw [if_neg c1]; rfl
    · rw [if_neg c1]; rfl
end C89
