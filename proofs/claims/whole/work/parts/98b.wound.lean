/-! 98b: wound, sure, cheapest -/
section C98b
variable {B : Int} {μ ν : sM} {f : Nat → Int32}
abbrev bt (s i : Nat) : Prop := ((isr (nI s) (nI i)) &&& 1) = 1
def tot (f : Nat → Int32) (s : Nat) : Nat → Nat → Int32 → Int32
  | 0, _, v => v
  | k + 1, i, v => tot f s k (i + 1) (if bt s i then v + f (52 + i) else v)
def totm (f : Nat → Int32) (s : Nat) : Nat → Nat → Int32 → Int32
  | 0, _, v => v
  | k + 1, i, v => totm f s k (i + 1) (if bt s i then imn 60 (v + f (52 + i)) else v)
def wgs (f : Nat → Int32) (s : Nat) : Nat → Nat → Int32 → Int32
  | 0, _, v => v
  | k + 1, i, v => wgs f s k (i + 1) (if bt s i then v + f (58 + i) else v)
theorem tot_m {s wn : Nat} (w6 : wn ≤ 6) (hs : ∀ i, i < wn → rg (f (52 + i)) 1 40) : ∀ (k i : Nat) (v : Int32), i + k = wn → (0 ≤ v.toInt ∧ v.toInt ≤ 60 + 40 * (i : Int)) → totm f s k i (imn 60 v) = imn 60 (tot f s k i v)
  | 0, i, v, h, hv => rfl
  | k + 1, i, v, h, hv => by
    have z := hs i (by omega)
    unfold rg at z
    have ta : (v + f (52 + i)).toInt = v.toInt + (f (52 + i)).toInt := tA (by omega) (by omega)
    have e60 : (60 : Int32).toInt = 60 := rfl
    unfold totm tot
    by_cases c : bt s i
    · rw [if_pos c, if_pos c, ← tot_m w6 hs k (i + 1) (v + f (52 + i)) (by omega) (by omega)]
      congr 1
      apply Int32.toInt_inj.mp
      have tm : (imn 60 v).toInt = min 60 v.toInt := by rw [tmn, e60]
      rw [tmn, tmn, ta, e60, tA (by rw [tm]; omega) (by rw [tm]; omega), tm]
      omega
    · rw [if_neg c, if_neg c]
      exact tot_m w6 hs k (i + 1) v (by omega) (by omega)
theorem wgs_b {s wn : Nat} (w6 : wn ≤ 6) (hs : ∀ i, i < wn → rg (f (58 + i)) 0 99) : ∀ (k i : Nat) (v : Int32), i + k = wn → (0 ≤ v.toInt ∧ v.toInt ≤ 99 * (i : Int)) → 0 ≤ (wgs f s k i v).toInt
  | 0, i, v, h, hv => hv.1
  | k + 1, i, v, h, hv => by
    have z := hs i (by omega)
    unfold rg at z
    unfold wgs
    by_cases c : bt s i
    · rw [if_pos c]
      have ta : (v + f (58 + i)).toInt = v.toInt + (f (58 + i)).toInt := tA (by omega) (by omega)
      exact wgs_b w6 hs k (i + 1) _ (by omega) (by omega)
    · rw [if_neg c]
      exact wgs_b w6 hs k (i + 1) v (by omega) (by omega)
theorem cw_l {s wn : Nat} (w6 : wn ≤ 6) (hs : ∀ i, i < wn → rI μ 51 0 i = f (52 + i)) (hc : rI μ 11 0 0 = nI wn) (b : Int32) : ∀ (k i fu : Nat) (v : Int32), i + k = wn → k < fu → X10_canWind_L6 fu 0 (nI s) b v (nI i) μ = some (if imn 60 (tot f s k i v) = b then 1 else 0, μ)
  | 0, i, fu + 1, v, h, _ => by
    unfold X10_canWind_L6
    rw [hc, if_pos (nI_le (by omega) (by omega))]
    unfold tot
    by_cases c : imn 60 v = b
    · rw [if_pos c, if_pos c]
    · rw [if_neg c, if_neg c]
  | k + 1, i, fu + 1, v, h, hf => by
    unfold X10_canWind_L6 X10_canWind_J37 tot
    rw [hc, if_neg (nI_ge (by omega) (by omega)), nI_1]
    by_cases c : bt s i
    · rw [if_pos c, if_pos c, if_pos (inb_nI (by omega) (by omega)), ix_nI (by omega), hs i (by omega), cw_l w6 hs hc b k (i + 1) fu _ (by omega) (by omega)]
    · rw [if_neg c, if_neg c, cw_l w6 hs hc b k (i + 1) fu _ (by omega) (by omega)]
theorem wg_l {s wn : Nat} (w6 : wn ≤ 6) (hs : ∀ i, i < wn → rI μ 52 0 i = f (58 + i)) (hc : rI μ 11 0 0 = nI wn) : ∀ (k i fu : Nat) (v : Int32), i + k = wn → k < fu → X10_wagesOf_L4 fu 0 (nI s) v (nI i) μ = some (wgs f s k i v, μ)
  | 0, i, fu + 1, v, h, _ => by
    unfold X10_wagesOf_L4
    rw [hc, if_pos (nI_le (by omega) (by omega))]
    rfl
  | k + 1, i, fu + 1, v, h, hf => by
    unfold X10_wagesOf_L4 X10_wagesOf_J30 wgs
    rw [hc, if_neg (nI_ge (by omega) (by omega)), nI_1]
    by_cases c : bt s i
    · rw [if_pos c, if_pos c, if_pos (inb_nI (by omega) (by omega)), ix_nI (by omega), hs i (by omega), wg_l w6 hs hc k (i + 1) fu _ (by omega) (by omega)]
    · rw [if_neg c, if_neg c, wg_l w6 hs hc k (i + 1) fu _ (by omega) (by omega)]
/-- what one set makes of the reference's three numbers -/
def stW (f : Nat → Int32) (wn s : Nat) (a b : Int32) (ν : sM) : sM := if totm f s wn 0 a = b then wI (wI (wI ν 13 0 34 (rI ν 13 0 34 + 1)) 13 0 35 (rI ν 13 0 35 &&& nI s)) 13 0 36 (if 0 ≤ rI ν 13 0 36 then imn (rI ν 13 0 36) (wgs f s wn 0 0) else wgs f s wn 0 0) else ν
theorem lw_l {s wn : Nat} (w6 : wn ≤ 6) {k26 : Int32 → Int32 → Int32 → sM → Option sM} {a b : Int32} (hr : ∀ j, j < 64 → rI ν 61 0 j = f j) (hc : f 2 = nI wn) : ∀ (k i fu : Nat) (v w : Int32), i + k = wn → k < fu →
    X12_laysWound_L47 k26 fu a b (nI s) v w (nI i) ν = if totm f s k i v = b then k26 a b (nI (s + 1)) (wI (wI (wI ν 13 0 34 (rI ν 13 0 34 + 1)) 13 0 35 (rI ν 13 0 35 &&& nI s)) 13 0 36 (if 0 ≤ rI ν 13 0 36 then imn (rI ν 13 0 36) (wgs f s k i w) else wgs f s k i w)) else k26 a b (nI (s + 1)) ν
  | 0, i, fu + 1, v, w, h, _ => by
    unfold X12_laysWound_L47 X12_laysWound_J162 X12_laysWound_J165
    rw [hr 2 (by omega), hc, if_pos (nI_le (by omega) (by omega)), nI_1]
    show _ = if v = b then _ else _
    by_cases c : v = b
    · rw [if_pos c, if_pos c]
      show _ = k26 a b (nI (s + 1)) (wI _ 13 0 36 (if 0 ≤ rI ν 13 0 36 then imn (rI ν 13 0 36) w else w))
      by_cases d : 0 ≤ rI ν 13 0 36
      · rw [if_pos d, if_pos d]
      · rw [if_neg d, if_neg d]
    · rw [if_neg c, if_neg c]
  | k + 1, i, fu + 1, v, w, h, hf => by
    rw [X12_laysWound_L47]
    unfold X12_laysWound_J105 X12_has totm wgs
    rw [hr 2 (by omega), hc, if_neg (nI_ge (by omega) (by omega)), nI_1]
    by_cases c : bt s i
    · rw [if_pos c, if_pos c, if_pos c, bI_s, if_neg n10, l52, l58, if_pos (inb_nI (by omega) (by omega)), if_pos (inb_nI (by omega) (by omega)), ix_nI (by omega), ix_nI (by omega), hr (52 + i) (by omega), hr (58 + i) (by omega), lw_l w6 hr hc k (i + 1) fu _ _ (by omega) (by omega)]
    · rw [if_neg c, if_neg c, if_neg c, bI_s, if_pos rfl, lw_l w6 hr hc k (i + 1) fu _ _ (by omega) (by omega)]
theorem isl_e : ∀ wn, wn < 7 → isl 1 (nI wn) = nI (2 ^ wn) := by decide +kernel
theorem p64 : ∀ wn, wn < 7 → 2 ^ wn ≤ 64 := by decide +kernel
theorem lwS {s wn fu : Nat} (w6 : wn ≤ 6) {a b : Int32} (hr : ∀ j, j < 64 → rI ν 61 0 j = f j) (hc : f 2 = nI wn) (hs : s < 2 ^ wn) : X12_laysWound_L26 (fu + 1) a b (nI s) ν = X12_laysWound_L26 fu a b (nI (s + 1)) (stW f wn s a b ν) := by
  have p := p64 wn (by omega)
  rw [X12_laysWound_L26]
  rw [hr 2 (by omega), hc, isl_e wn (by omega), if_neg (nI_ge hs (by omega))]
  have z := lw_l (s := s) w6 (k26 := X12_laysWound_L26 fu) (a := a) (b := b) hr hc wn 0 fuN a 0 (by omega) (fuN_6 (by omega))
  rw [nI_0] at z
  rw [z]
  unfold stW
  by_cases c : totm f s wn 0 a = b
  · rw [if_pos c, if_pos c]
  · rw [if_neg c, if_neg c]
theorem stW_o {s wn : Nat} {a b : Int32} {k i j : Nat} (h : k ≠ 13 ∨ (j ≠ 34 ∧ j ≠ 35 ∧ j ≠ 36)) : rI (stW f wn s a b ν) k i j = rI ν k i j := by
  unfold stW
  by_cases c : totm f s wn 0 a = b
  · rw [if_pos c, rI_wI, if_neg (by omega), rI_wI, if_neg (by omega), rI_wI, if_neg (by omega)]
  · rw [if_neg c]
theorem stW_q {s wn : Nat} {a b : Int32} : kq qB ν (stW f wn s a b ν) := by
  unfold stW
  by_cases c : totm f s wn 0 a = b
  · rw [if_pos c]
    exact kq_wI rfl (kq_wI rfl (kq_wI rfl kq_r))
  · rw [if_neg c]
    exact kq_r
theorem and_e : ∀ x, x < 64 → ∀ s, s < 64 → nI x &&& nI s = nI (x &&& s) ∧ x &&& s < 64 := by decide +kernel
theorem all_e : ∀ wn, wn < 7 → ∀ s, s < 64 → s < 2 ^ wn → (nI (2 ^ wn) - 1) &&& nI s = nI s := by decide +kernel
/-- the three numbers as they come -/
def wInv (ν : sM) (wn c : Nat) (v1 v2 v3 : Int32) : Prop := rI ν 13 0 34 = nI c ∧ v1 = nI c ∧ ((c = 0 ∧ v2 = -1 ∧ v3 = -1 ∧ rI ν 13 0 35 = nI (2 ^ wn) - 1 ∧ rI ν 13 0 36 = -1) ∨ (0 < c ∧ (∃ x, x < 64 ∧ v2 = nI x) ∧ rI ν 13 0 35 = v2 ∧ rI ν 13 0 36 = v3 ∧ 0 ≤ v3.toInt))
theorem wStep {s wn c : Nat} {a b v1 v2 v3 : Int32} (w6 : wn ≤ 6) (hs : s < 2 ^ wn) (hcs : c ≤ s) (hg : ∀ i, i < wn → rg (f (58 + i)) 0 99) (h : wInv ν wn c v1 v2 v3) (hk : totm f s wn 0 a = b) : wInv (stW f wn s a b ν) wn (c + 1) (v1 + 1) (if v2 = -1 then nI s else v2 &&& nI s) (if v3 = -1 then wgs f s wn 0 0 else imn v3 (wgs f s wn 0 0)) := by
  have p := p64 wn (by omega)
  obtain ⟨h1, h2, h3⟩ := h
  have wb := wgs_b (s := s) w6 hg wn 0 0 (by omega) (by rw [t0]; omega)
  unfold stW
  rw [if_pos hk]
  refine ⟨?_, by rw [h2, nI_1], Or.inr ⟨by omega, ?_, ?_, ?_, ?_⟩⟩
  · rw [rI_j (by decide), rI_j (by decide), rI_s, h1, nI_1]
  · rcases h3 with ⟨-, q, -⟩ | ⟨-, ⟨x, hx, q⟩, -⟩
    · rw [if_pos q]
      exact ⟨s, by omega, rfl⟩
    · have ne : ¬ v2 = -1 := fun z => by
        have t := nI_toInt (n := x) (by omega)
        rw [← q, z, m1_q] at t
        omega
      rw [if_neg ne, q, (and_e x hx s (by omega)).1]
      exact ⟨_, (and_e x hx s (by omega)).2, rfl⟩
  · rw [rI_j (by decide), rI_s]
    rcases h3 with ⟨-, q, -, q5, -⟩ | ⟨-, ⟨x, hx, q⟩, q5, -⟩
    · rw [if_pos q, q5, all_e wn (by omega) s (by omega) hs]
    · have ne : ¬ v2 = -1 := fun z => by
        have t := nI_toInt (n := x) (by omega)
        rw [← q, z, m1_q] at t
        omega
      rw [if_neg ne, q5]
  · rw [rI_s]
    rcases h3 with ⟨-, -, q, -, q6⟩ | ⟨-, -, -, q6, q7⟩
    · rw [if_pos q, q6, if_neg m1_n]
    · have ne : ¬ v3 = -1 := fun z => by rw [z, m1_q] at q7; omega
      rw [if_neg ne, q6, if_pos (by rw [le_i, t0]; exact q7)]
  · rcases h3 with ⟨-, -, q, -⟩ | ⟨-, -, -, -, q7⟩
    · rw [if_pos q]; exact wb
    · have ne : ¬ v3 = -1 := fun z => by rw [z, m1_q] at q7; omega
      rw [if_neg ne, tmn]
      omega
/-- the class's three loops and the reference's one, set by set -/
theorem wLoop {wn : Nat} (w6 : wn ≤ 6) {a b : Int32} (hc : f 2 = nI wn) (hst : ∀ i, i < wn → rg (f (52 + i)) 1 40) (hg : ∀ i, i < wn → rg (f (58 + i)) 0 99) (ha : 0 ≤ a.toInt ∧ a.toInt ≤ 60) (x51 : ∀ i, i < wn → rI μ 51 0 i = f (52 + i)) (x52 : ∀ i, i < wn → rI μ 52 0 i = f (58 + i)) (x11 : rI μ 11 0 0 = nI wn) :
    ∀ (k s fu c : Nat) (ν : sM) (v1 v2 v3 : Int32), s + k = 2 ^ wn → k < fu → c ≤ s → (∀ j, j < 64 → rI ν 61 0 j = f j) → wInv ν wn c v1 v2 v3 → ∃ ν' c' u1 u2 u3, X11_wound_L25 fu a b v1 (nI s) μ = some (u1, wI μ 12 0 0 0) ∧ (X11_sure_L25 fu a b v2 (nI s) μ = X11_giveIfAny u2 μ) ∧ (X11_cheapest_L25 fu a b v3 (nI s) μ = X11_giveIfAny u3 μ) ∧ X12_laysWound_L26 fu a b (nI s) ν = some ν' ∧ wInv ν' wn c' u1 u2 u3 ∧ kq qB ν ν' ∧ rI ν' 13 0 0 = rI ν 13 0 0 ∧ c' ≤ 2 ^ wn
  | 0, s, fu + 1, c, ν, v1, v2, v3, h, _, hcs, hr, hi => by
    have p := p64 wn (by omega)
    have g : nI (2 ^ wn) ≤ nI s := nI_le (by omega) (by omega)
    have fix : ∀ (o : Option (Int32 × sM)), (bI o fun x3 μ4 => some (x3, μ4)) = o := fun o => by cases o <;> rfl
    refine ⟨ν, c, v1, v2, v3, ?_, ?_, ?_, ?_, hi, kq_r, rfl, by omega⟩
    · unfold X11_wound_L25 X10_sets
      rw [bI_s, x11, isl_e wn (by omega), if_pos g]; rfl
    · unfold X11_sure_L25 X10_sets
      rw [bI_s, x11, isl_e wn (by omega), if_pos g, fix]
    · unfold X11_cheapest_L25 X10_sets
      rw [bI_s, x11, isl_e wn (by omega), if_pos g, fix]
    · unfold X12_laysWound_L26
      rw [hr 2 (by omega), hc, isl_e wn (by omega), if_pos g]
  | k + 1, s, fu + 1, c, ν, v1, v2, v3, h, hf, hcs, hr, hi => by
    have p := p64 wn (by omega)
    have g : ¬ nI (2 ^ wn) ≤ nI s := nI_ge (by omega) (by omega)
    have hs : s < 2 ^ wn := by omega
    have em : totm f s wn 0 a = imn 60 (tot f s wn 0 a) := by
      have z := tot_m (s := s) w6 hst wn 0 a (by omega) (by omega)
      rw [← z]
      congr 1
      apply Int32.toInt_inj.mp
      rw [tmn, show (60 : Int32).toInt = 60 from rfl]
      omega
    have ecw := cw_l (s := s) w6 x51 x11 b wn 0 fuN a (by omega) (fuN_6 (by omega))
    have ewg := wg_l (s := s) w6 x52 x11 wn 0 fuN 0 (by omega) (fuN_6 (by omega))
    rw [nI_0, ← em] at ecw
    rw [nI_0] at ewg
    have eW : X11_wound_L25 (fu + 1) a b v1 (nI s) μ = X11_wound_L25 fu a b (if totm f s wn 0 a = b then v1 + 1 else v1) (nI (s + 1)) μ := by
      rw [X11_wound_L25]
      unfold X10_sets X10_canWind X11_wound_J60
      rw [bI_s, x11, isl_e wn (by omega), if_neg g, ecw, bI_s, nI_1]
      by_cases z : totm f s wn 0 a = b
      · rw [if_pos z, if_neg n10, if_pos z]
      · rw [if_neg z, if_pos rfl, if_neg z]
    have eS : X11_sure_L25 (fu + 1) a b v2 (nI s) μ = X11_sure_L25 fu a b (if totm f s wn 0 a = b then (if v2 = -1 then nI s else v2 &&& nI s) else v2) (nI (s + 1)) μ := by
      rw [X11_sure_L25]
      unfold X10_sets X10_canWind X11_sure_J71 X11_sure_J72
      rw [bI_s, x11, isl_e wn (by omega), if_neg g, ecw, bI_s, nI_1]
      by_cases z : totm f s wn 0 a = b
      · rw [if_pos z, if_neg n10, if_pos z]
        by_cases y : v2 = -1
        · rw [if_pos y, if_pos y]
        · rw [if_neg y, if_neg y]
      · rw [if_neg z, if_pos rfl, if_neg z]
    have eC : X11_cheapest_L25 (fu + 1) a b v3 (nI s) μ = X11_cheapest_L25 fu a b (if totm f s wn 0 a = b then (if v3 = -1 then wgs f s wn 0 0 else imn v3 (wgs f s wn 0 0)) else v3) (nI (s + 1)) μ := by
      rw [X11_cheapest_L25]
      unfold X10_sets X10_canWind X10_wagesOf X11_cheapest_J87 X11_cheapest_J88
      rw [bI_s, x11, isl_e wn (by omega), if_neg g, ecw, bI_s, nI_1]
      by_cases z : totm f s wn 0 a = b
      · rw [if_pos z, if_neg n10, if_pos z, ewg, bI_s]
        by_cases y : v3 = -1
        · rw [if_pos y, if_pos y]
        · rw [if_neg y, if_neg y]
      · rw [if_neg z, if_pos rfl, if_neg z]
    rw [eW, eS, eC, lwS w6 hr hc hs]
    by_cases z : totm f s wn 0 a = b
    · rw [if_pos z, if_pos z, if_pos z]
      obtain ⟨ν', c', u1, u2, u3, y1, y2, y3, y4, y5, y6, y7, y8⟩ := wLoop w6 hc hst hg ha x51 x52 x11 k (s + 1) fu (c + 1) (stW f wn s a b ν) _ _ _ (by omega) (by omega) (by omega) (fun j hj => by rw [stW_o (Or.inl (by decide))]; exact hr j hj) (wStep w6 hs hcs hg hi z)
      exact ⟨ν', c', u1, u2, u3, y1, y2, y3, y4, y5, kq_t stW_q y6, y7.trans (stW_o (by omega)), y8⟩
    · rw [if_neg z, if_neg z, if_neg z]
      have es : stW f wn s a b ν = ν := by
        unfold stW
        rw [if_neg z]
      rw [es]
      exact wLoop w6 hc hst hg ha x51 x52 x11 k (s + 1) fu c ν v1 v2 v3 (by omega) (by omega) (by omega) hr hi
theorem spr_e (a : Int32) (μ : sM) : X11_isNoSpring a μ = some (if 0 ≤ a.toInt ∧ a.toInt ≤ 60 then 0 else 1, μ) := by
  unfold X11_isNoSpring
  simp only [lt_i, le_i, t0, show (60 : Int32).toInt = 60 from rfl]
  by_cases c : a.toInt < 0
  · rw [if_pos c, if_neg (by omega)]
  · rw [if_neg c]
    by_cases d : a.toInt ≤ 60
    · rw [if_pos d, if_pos (by omega)]
    · rw [if_neg d, if_neg (by omega)]
theorem are_e (a b : Int32) (ν : sM) : X12_areTurns a b ν = some (if (0 ≤ a.toInt ∧ a.toInt ≤ 60) ∧ 0 ≤ b.toInt ∧ b.toInt ≤ 60 then 1 else 0, ν) := by
  unfold X12_areTurns
  rw [isIn_i, bI_s, show (0 : Int64).toInt = 0 from rfl, show (60 : Int64).toInt = 60 from rfl]
  by_cases c1 : 0 ≤ a.toInt ∧ a.toInt ≤ 60
  · rw [if_pos c1, if_neg n10, isIn_i, bI_s, show (0 : Int64).toInt = 0 from rfl, show (60 : Int64).toInt = 60 from rfl]
    by_cases c2 : 0 ≤ b.toInt ∧ b.toInt ≤ 60
    · rw [if_pos c2, if_neg n10, if_pos ⟨c1, c2⟩]
    · rw [if_neg c2, if_pos rfl, if_neg (fun q => c2 q.2)]
  · rw [if_neg c1, if_pos rfl, if_neg (fun q => c1 q.1)]
theorem wound3 (h : Rel B μ ν) (a b : Int32) (ha : 0 ≤ a.toInt ∧ a.toInt ≤ 60) : ∃ ν' wn c u1 u2 u3, X11_wound_L25 fuN a b 0 0 μ = some (u1, wI μ 12 0 0 0) ∧ X11_sure_L25 fuN a b (-1) 0 μ = X11_giveIfAny u2 μ ∧ X11_cheapest_L25 fuN a b (-1) 0 μ = X11_giveIfAny u3 μ ∧ X12_laysWound a b (m0 ν) = some ν' ∧ wInv ν' wn c u1 u2 u3 ∧ kq qB ν ν' ∧ rI ν' 13 0 0 = 0 ∧ c ≤ 64 := by
  obtain ⟨-, hR, ok, h9, hx⟩ := Rel_i h
  obtain ⟨wn, hw, w6, hw'⟩ := rg_nI (b := 6) ok.1.2.2
  have p := p64 wn (by omega)
  have key : ∀ (ν0 : sM), ν0 = wI (wI (wI (m0 ν) 13 0 34 0) 13 0 35 (isl 1 (rI (m0 ν) 61 0 2) - 1)) 13 0 36 (-1) → ∃ ν' c u1 u2 u3, X11_wound_L25 fuN a b 0 0 μ = some (u1, wI μ 12 0 0 0) ∧ X11_sure_L25 fuN a b (-1) 0 μ = X11_giveIfAny u2 μ ∧ X11_cheapest_L25 fuN a b (-1) 0 μ = X11_giveIfAny u3 μ ∧ X12_laysWound_L26 fuN a b 0 ν0 = some ν' ∧ wInv ν' wn c u1 u2 u3 ∧ kq qB ν0 ν' ∧ rI ν' 13 0 0 = rI ν0 13 0 0 ∧ c ≤ 2 ^ wn := by
    intro ν0 e0
    obtain ⟨ν', c, u1, u2, u3, y1, y2, y3, y4, y5, y6, y7, y8⟩ := wLoop (f := rI ν 61 0) (μ := μ) (a := a) (b := b) w6 hw (fun i hi => (ok.2.2.2.2.2 i (by omega)).1) (fun i hi => (ok.2.2.2.2.2 i (by omega)).2) ha (fun i hi => (hR.2.2.2.2 i (by omega)).1) (fun i hi => (hR.2.2.2.2 i (by omega)).2.1) (hR.1.2.2.1.trans hw) (2 ^ wn) 0 fuN 0 ν0 0 (-1) (-1) (by omega) (fuN_6 (by omega)) (by omega) (fun j hj => by rw [e0, rI_k (by decide), rI_k (by decide), rI_k (by decide), m0_k (by decide)]) (by
      refine ⟨?_, nI_0.symm, Or.inl ⟨rfl, rfl, rfl, ?_, ?_⟩⟩
      · rw [e0, rI_j (by decide), rI_j (by decide), rI_s, nI_0]
      · rw [e0, rI_j (by decide), rI_s, m0_k (by decide), hw, isl_e wn (by omega)]
      · rw [e0, rI_s])
    rw [nI_0] at y1 y2 y3 y4
    exact ⟨ν', c, u1, u2, u3, y1, y2, y3, y4, y5, y6, y7, y8⟩
  obtain ⟨ν', c, u1, u2, u3, y1, y2, y3, y4, y5, y6, y7, y8⟩ := key _ rfl
  refine ⟨ν', wn, c, u1, u2, u3, y1, y2, y3, y4, y5, kq_t (kq_t m0_q (kq_wI rfl (kq_wI rfl (kq_wI rfl kq_r)))) y6, ?_, ?_⟩
  · rw [y7, rI_j (by decide), rI_j (by decide), rI_j (by decide), rI_s]
  · omega
theorem m_wound (a b : Int32) : BoI B (X11_wound a b) (X12_wound a b) := fun μ ν h => by
  unfold X11_wound X12_wound
  rw [spr_e, bI_s, are_e, bI_s]
  by_cases c1 : 0 ≤ a.toInt ∧ a.toInt ≤ 60
  · rw [if_pos c1, if_pos rfl, spr_e, bI_s]
    by_cases c2 : 0 ≤ b.toInt ∧ b.toInt ≤ 60
    · obtain ⟨ν', wn, c, u1, u2, u3, y1, y2, y3, y4, y5, y6, y7, y8⟩ := wound3 h a b c1
      refine ⟨u1, _, _, ?_, ?_, Rel_q h (kq_wI rfl kq_r) y6 (by rw [rI_s, y7]) (by omega)⟩
      · rw [if_pos c2, if_pos rfl, y1]
      · rw [if_pos (show (0 ≤ a.toInt ∧ a.toInt ≤ 60) ∧ 0 ≤ b.toInt ∧ b.toInt ≤ 60 from ⟨c1, c2⟩), if_neg n10, y4, bV_s, y5.1, y5.2.1]
    · exact ⟨-1, _, _, by rw [if_neg c2, if_neg n10]; rfl, by rw [if_neg (show ¬ ((0 ≤ a.toInt ∧ a.toInt ≤ 60) ∧ 0 ≤ b.toInt ∧ b.toInt ≤ 60) from fun q => c2 q.2)]; rfl, re_b h 5⟩
  · exact ⟨-1, _, _, by rw [if_neg c1, if_neg n10]; rfl, by rw [if_neg (show ¬ ((0 ≤ a.toInt ∧ a.toInt ≤ 60) ∧ 0 ≤ b.toInt ∧ b.toInt ≤ 60) from fun q => c1 q.1)]; rfl, re_b h 5⟩
theorem m_sure (a b : Int32) : BoI B (X11_sure a b) (X12_sure a b) := fun μ ν h => by
  unfold X11_sure X12_sure
  rw [spr_e, bI_s, are_e, bI_s]
  by_cases c1 : 0 ≤ a.toInt ∧ a.toInt ≤ 60
  · rw [if_pos c1, if_pos rfl, spr_e, bI_s]
    by_cases c2 : 0 ≤ b.toInt ∧ b.toInt ≤ 60
    · obtain ⟨ν', wn, c, u1, u2, u3, y1, y2, y3, y4, ⟨q1, q2, q3⟩, y6, y7, y8⟩ := wound3 h a b c1
      rw [if_pos c2, if_pos rfl, if_pos (show (0 ≤ a.toInt ∧ a.toInt ≤ 60) ∧ 0 ≤ b.toInt ∧ b.toInt ≤ 60 from ⟨c1, c2⟩), if_neg n10, y2, y4, bV_s, q1]
      rcases q3 with ⟨z1, z2, -⟩ | ⟨z1, ⟨x, hx, z2⟩, z3, -⟩
      · rw [any_e (Or.inl z2), z2, if_neg (show ¬ 0 ≤ (-1 : Int32).toInt by decide +kernel), z1, if_pos nI_0]
        exact ⟨-1, _, _, rfl, rfl, Rel_q h (kq_wI rfl kq_r) (kq_wI rfl y6) (by rw [rI_s, rI_s]) (by omega)⟩
      · have tx := nI_toInt (n := x) (by omega)
        have gx : 0 ≤ u2.toInt := by rw [z2, tx]; omega
        rw [any_e (Or.inr gx), if_pos gx, if_neg (nI_ne0 z1 (by omega)), z3]
        exact ⟨u2, _, _, rfl, rfl, Rel_q h (kq_wI rfl kq_r) y6 (by rw [rI_s, y7]) (by omega)⟩
    · exact ⟨-1, _, _, by rw [if_neg c2, if_neg n10]; rfl, by rw [if_neg (show ¬ ((0 ≤ a.toInt ∧ a.toInt ≤ 60) ∧ 0 ≤ b.toInt ∧ b.toInt ≤ 60) from fun q => c2 q.2)]; rfl, re_b h 5⟩
  · exact ⟨-1, _, _, by rw [if_neg c1, if_neg n10]; rfl, by rw [if_neg (show ¬ ((0 ≤ a.toInt ∧ a.toInt ≤ 60) ∧ 0 ≤ b.toInt ∧ b.toInt ≤ 60) from fun q => c1 q.1)]; rfl, re_b h 5⟩
theorem m_cheapest (a b : Int32) : BoI B (X11_cheapest a b) (X12_cheapest a b) := fun μ ν h => by
  unfold X11_cheapest X12_cheapest
  rw [spr_e, bI_s, are_e, bI_s]
  by_cases c1 : 0 ≤ a.toInt ∧ a.toInt ≤ 60
  · rw [if_pos c1, if_pos rfl, spr_e, bI_s]
    by_cases c2 : 0 ≤ b.toInt ∧ b.toInt ≤ 60
    · obtain ⟨ν', wn, c, u1, u2, u3, y1, y2, y3, y4, ⟨q1, q2, q3⟩, y6, y7, y8⟩ := wound3 h a b c1
      rw [if_pos c2, if_pos rfl, if_pos (show (0 ≤ a.toInt ∧ a.toInt ≤ 60) ∧ 0 ≤ b.toInt ∧ b.toInt ≤ 60 from ⟨c1, c2⟩), if_neg n10, y3, y4, bV_s, q1]
      rcases q3 with ⟨z1, -, z2, -⟩ | ⟨z1, -, -, z3, gx⟩
      · rw [any_e (Or.inl z2), z2, if_neg (show ¬ 0 ≤ (-1 : Int32).toInt by decide +kernel), z1, if_pos nI_0]
        exact ⟨-1, _, _, rfl, rfl, Rel_q h (kq_wI rfl kq_r) (kq_wI rfl y6) (by rw [rI_s, rI_s]) (by omega)⟩
      · rw [any_e (Or.inr gx), if_pos gx, if_neg (nI_ne0 z1 (by omega)), z3]
        exact ⟨u3, _, _, rfl, rfl, Rel_q h (kq_wI rfl kq_r) y6 (by rw [rI_s, y7]) (by omega)⟩
    · exact ⟨-1, _, _, by rw [if_neg c2, if_neg n10]; rfl, by rw [if_neg (show ¬ ((0 ≤ a.toInt ∧ a.toInt ≤ 60) ∧ 0 ≤ b.toInt ∧ b.toInt ≤ 60) from fun q => c2 q.2)]; rfl, re_b h 5⟩
  · exact ⟨-1, _, _, by rw [if_neg c1, if_neg n10]; rfl, by rw [if_neg (show ¬ ((0 ≤ a.toInt ∧ a.toInt ≤ 60) ∧ 0 ≤ b.toInt ∧ b.toInt ≤ 60) from fun q => c1 q.1)]; rfl, re_b h 5⟩
end C98b
