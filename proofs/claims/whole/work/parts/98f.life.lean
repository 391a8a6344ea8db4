/-! 98f: a STEP that is lived -/
section C98f
variable {B : Int} {μ ν : sM} {r l : Nat}
/-- all but the numbers of river r, of life l, and its rounds -/
def nL (r l k i : Nat) : Bool := !((rk2 k && i == r) || ((k == 2 || k == 23) && i == l))
theorem nL_r {k : Nat} (h : rk2 k = true) : nL r l k r = false := by
  unfold nL
  rw [h]
  simp
theorem nL_2 : nL r l 2 l = false := by
  unfold nL
  simp
theorem nL_23 : nL r l 23 l = false := by
  unfold nL
  simp
theorem nL_Q : ∀ k i, nL r l k i = true → nQ r k i = true := by
  intro k i h
  unfold nL at h
  unfold nQ
  cases e : (rk2 k && i == r) with
  | false => rfl
  | true => rw [e] at h; cases h
theorem nQ_2 {i : Nat} : nQ r 2 i = true := rfl
theorem nQ_23 {i : Nat} : nQ r 23 i = true := rfl
def FrX (r l : Nat) (μ μ' : sM) : Prop := keep (nL r l) μ μ' ∧ (∀ j, j = 0 ∨ j = 1 ∨ j = 2 ∨ j = 6 → rI μ' 2 l j = rI μ 2 l j) ∧ ∀ j, rI μ' 23 l j = rI μ 23 l j
/-- what a STEP of the reference leaves alone -/
def mf3 (ν ν' : sM) : Prop := (∀ k i j, (k ≠ 61 ∨ 76 ≤ j ∨ i ≠ 0) → k ≠ 65 → k ≠ 66 → (k ≠ 13 ∨ j < 41 ∨ 49 ≤ j) → rI ν' k i j = rI ν k i j) ∧ (∀ k i j, rL ν' k i j = rL ν k i j) ∧ ∀ j, j < 6 ∨ (34 ≤ j ∧ j < 46) ∨ (52 ≤ j ∧ j < 64) → rI ν' 61 0 j = rI ν 61 0 j
def FrM (ν ν' : sM) : Prop := mf3 ν ν' ∧ ∀ j, j = 41 ∨ j = 43 ∨ j = 44 ∨ j = 48 → rI ν' 13 0 j = rI ν 13 0 j
theorem mf3_r : mf3 ν ν := ⟨fun _ _ _ _ _ _ _ => rfl, fun _ _ _ => rfl, fun _ _ => rfl⟩
theorem mf3_t {ν1 ν2 : sM} (h : mf3 ν ν1) (h' : mf3 ν1 ν2) : mf3 ν ν2 := ⟨fun k i j a b c d => (h'.1 k i j a b c d).trans (h.1 k i j a b c d), fun k i j => (h'.2.1 k i j).trans (h.2.1 k i j), fun j hj => (h'.2.2 j hj).trans (h.2.2 j hj)⟩
theorem mf3_13 {ν1 : sM} {j : Nat} {v : Int32} (h : mf3 ν ν1) (hj : 41 ≤ j ∧ j < 49) : mf3 ν (wI ν1 13 0 j v) := ⟨fun k i c a b e g => by
  rw [rI_wI, if_neg (fun q => by omega)]
  exact h.1 k i c a b e g, h.2.1, fun c hc => by rw [rI_k (by decide)]; exact h.2.2 c hc⟩
theorem FrX_r : FrX r l μ μ := ⟨keep_r, fun _ _ => rfl, fun _ => rfl⟩
theorem FrM_r : FrM ν ν := ⟨mf3_r, fun _ _ => rfl⟩
theorem FrX_t {μ1 μ2 : sM} (h : FrX r l μ μ1) (h' : FrX r l μ1 μ2) : FrX r l μ μ2 := ⟨keep_t h.1 h'.1, fun j hj => (h'.2.1 j hj).trans (h.2.1 j hj), fun j => (h'.2.2 j).trans (h.2.2 j)⟩
theorem FrM_t {ν1 ν2 : sM} (h : FrM ν ν1) (h' : FrM ν1 ν2) : FrM ν ν2 := ⟨mf3_t h.1 h'.1, fun j hj => (h'.2 j hj).trans (h.2 j hj)⟩
theorem FrX_Q {μ1 : sM} (h : keep (nQ r) μ μ1) : FrX r l μ μ1 := ⟨keep_m h nL_Q, fun j _ => (h 2 l nQ_2 j).1, fun j => (h 23 l nQ_23 j).1⟩
theorem FrX_2 {μ1 : sM} {j : Nat} {v : Int32} (h : FrX r l μ μ1) (hj : j ≠ 0 ∧ j ≠ 1 ∧ j ≠ 2 ∧ j ≠ 6) : FrX r l μ (wI μ1 2 l j v) := ⟨keep_wI nL_2 h.1, fun c hc => by rw [rI_j (by omega)]; exact h.2.1 c hc, fun c => by rw [rI_k (by decide)]; exact h.2.2 c⟩
theorem FrM_13 {ν1 : sM} {j : Nat} {v : Int32} (h : FrM ν ν1) (hj : j = 42 ∨ j = 45 ∨ j = 46 ∨ j = 47) : FrM ν (wI ν1 13 0 j v) := ⟨mf3_13 h.1 (by omega), fun c hc => by rw [rI_j (by omega)]; exact h.2 c hc⟩
/-- both sides of a life, alike -/
def LfS (B : Int) (μ : sM) (r l : Nat) (ν : sM) : Prop := (rR μ 2 l 8 = r + 1 ∧ rR μ 2 l 9 = 1) ∧ Rv B μ r ν ∧ (rI ν 61 0 6).toInt ≤ 9999 ∧ (rI μ 2 l 3 = rI ν 13 0 45 ∧ rI μ 2 l 4 = rI ν 13 0 46 ∧ rI μ 2 l 5 = rI ν 13 0 47 ∧ rI μ 2 l 7 = rI ν 13 0 42) ∧ rg (rI ν 13 0 42) 0 65535
theorem Riv_x {μ1 : sM} {f : Nat → Int32} (h : Riv μ r f) (ok : OkR B f) (a : ∀ k j, rk k = true → rI μ1 k r j = rI μ k r j ∧ rL μ1 k r j = rL μ k r j) : Riv μ1 r f := Riv_c h a (fun _ _ => rfl) ok.1.1.2 ok.1.2.1.2 ok.1.2.2.2
theorem Rv_2 {i j : Nat} {v : Int32} (h : Rv B μ r ν) : Rv B (wI μ 2 i j v) r ν := ⟨Riv_x h.1 h.2 (fun k c hk => ⟨rI_k (fun q => by rw [q] at hk; cases hk), rfl⟩), h.2⟩
theorem Rv_23 {i j : Nat} {v : Int32} (h : Rv B μ r ν) : Rv B (wI μ 23 i j v) r ν := ⟨Riv_x h.1 h.2 (fun k c hk => ⟨rI_k (fun q => by rw [q] at hk; cases hk), rfl⟩), h.2⟩
theorem Rv_13 {i j : Nat} {v : Int32} (h : Rv B μ r ν) : Rv B μ r (wI ν 13 i j v) := by
  have e : rI (wI ν 13 i j v) 61 0 = rI ν 61 0 := funext fun c => rI_k (by decide)
  exact ⟨by rw [e]; exact h.1, by rw [e]; exact h.2⟩
/-- one number of the row changed on both sides -/
theorem LfS_u (h : LfS B μ r l ν) {j k p : Nat} {v : Int32} (hv : okv B (rI ν 61 0) j v) (hk : clk j = k) (hp : clp j = p) (hj : 3 ≤ j ∧ j < 76 ∧ (j < 10 ∨ 16 ≤ j)) (h6 : j ≠ 6) (hr : rk2 k = true) (hq : ¬ (j < 6 ∨ (34 ≤ j ∧ j < 46) ∨ (52 ≤ j ∧ j < 64))) : LfS B (wI μ k r p v) r l (wI ν 61 0 j v) ∧ FrX r l μ (wI μ k r p v) ∧ FrM ν (wI ν 61 0 j v) := by
  obtain ⟨h1, h2, h3, ⟨a1, a2, a3, a4⟩, h5⟩ := h
  have k2 : (2 : Nat) ≠ k := fun q => by rw [← q] at hr; cases hr
  have k23 : (23 : Nat) ≠ k := fun q => by rw [← q] at hr; cases hr
  have z := Riv_u (v := v) h2.1 ⟨_, h2.2⟩ hj
  rw [hk, hp] at z
  refine ⟨⟨h1, ⟨?_, ?_⟩, ?_, ⟨?_, ?_, ?_, ?_⟩, ?_⟩, ⟨keep_wI (nL_r hr) keep_r, fun c _ => rI_k k2, fun c => rI_k k23⟩, ⟨fun a b c x y w u => ?_, fun _ _ _ => rfl, fun c hc => ?_⟩, fun c hc => rI_k (by decide)⟩
  · rw [wI_upd]; exact z
  · rw [wI_upd]; exact OkR_u h2.2 hv
  · rw [rI_j (fun q => h6 q.symm)]; exact h3
  · rw [rI_k k2, rI_k (by decide)]; exact a1
  · rw [rI_k k2, rI_k (by decide)]; exact a2
  · rw [rI_k k2, rI_k (by decide)]; exact a3
  · rw [rI_k k2, rI_k (by decide)]; exact a4
  · rw [rI_k (by decide)]; exact h5
  · rw [rI_wI, if_neg (fun q => by omega)]
  · rw [rI_j (fun q => hq (by rw [← q]; exact hc))]
/-- what one STEP gives on both sides -/
def SG (B : Int) (r l : Nat) (μ ν : sM) (X M : Option (Int32 × sM)) : Prop := ∃ x μ' ν', X = some (x, μ') ∧ M = some (x, ν') ∧ (x = 0 ∨ x = 1) ∧ LfS B μ' r l ν' ∧ FrX r l μ μ' ∧ FrM ν ν'
abbrev ck (x : Int32) (μ : sM) : Option (Int32 × sM) := if x = 0 ∨ x = 1 then some (x, μ) else none
theorem SG_ck {X M : Option (Int32 × sM)} (h : SG B r l μ ν X M) : SG B r l μ ν (bI X ck) (bI M ck) := by
  obtain ⟨x, μ', ν', e1, e2, hx, h⟩ := h
  refine ⟨x, μ', ν', ?_, ?_, hx, h⟩
  · rw [e1, bI_s]; exact if_pos hx
  · rw [e2, bI_s]; exact if_pos hx
theorem isDone_u {p : Nat} {w : Int32} (h9 : rR μ 2 l 9 = 1) (hp : p < 60) (hw : rI μ 43 0 p = w) : X1_isDone l (nI p) μ = (if w = 2 then bI (X1_turnsTo l 1 μ) ck else if w = 6 then bI (X1_sets l (rI μ 44 0 p) (rI μ 45 0 p) μ) ck else if w = 14 then bI (X1_waits l (rI μ 45 0 p) μ) ck else if w = 15 then (if rI μ 45 0 p = 1 then X1_isDone_J138 1 (rI μ 44 0 p) l μ else X1_isDone_J138 0 (rI μ 44 0 p) l μ) else if w = 17 then (if rR μ 2 l 8 = 0 then none else some (1, wI μ 5 (rR μ 2 l 8 - 1) 5 12)) else if w = 18 then bI (X1_turnsTo l 0 μ) ck else if w = 19 then bI (X1_doesAny l μ) ck else some (1, μ)) := by
  have i60 : inb (nI p) 60 = true := inb_nI hp (by omega)
  have xp : ix (nI p) = p := ix_nI (by omega)
  unfold X1_isDone
  rw [xp, hw]
  simp only [h9, i60, ↓reduceIte]
theorem n1 (a : Nat) : nI a + 1 = nI (a + 1) := nI_1 a
theorem n2 (a : Nat) : nI a + 2 = nI (a + 2) := nI_add a 2
theorem n6 (a : Nat) : nI a + 6 = nI (a + 6) := nI_add a 6
theorem n7 (a : Nat) : nI a + 7 = nI (a + 7) := nI_add a 7
theorem n8 (a : Nat) : nI a + 8 = nI (a + 8) := nI_add a 8
theorem does_u {s : Nat} {k : Int32} (hs : s < 30) (hk : rI ν 61 0 (78 + 9 * s) = k) : X12_does (nI (78 + 9 * s)) ν = (if k = 0 then bI (X12_anyHours (rI ν 61 0 (78 + 9 * s + 1)) ν) ck else if k = 1 then (if rI ν 61 0 (78 + 9 * s + 2) = 1 then X12_does_J55 1 (rI ν 61 0 (78 + 9 * s + 1)) ν else X12_does_J55 0 (rI ν 61 0 (78 + 9 * s + 1)) ν) else if k = 3 then bI (X12_becomes (22 + rI ν 61 0 (78 + 9 * s + 1)) (rI ν 61 0 (78 + 9 * s + 2)) ν) ck else if k = 6 then bI (X12_isAny ν) ck else if k = 2 then some (1, wI ν 61 0 8 12) else if k = 4 then X12_does_J117 1 7 ν else X12_does_J117 0 7 ν) := by
  have i0 : inb (nI (78 + 9 * s)) 1740 = true := inb_nI (by omega) (by omega)
  have i1 : inb (nI (78 + 9 * s + 1)) 1740 = true := inb_nI (by omega) (by omega)
  have i2 : inb (nI (78 + 9 * s + 2)) 1740 = true := inb_nI (by omega) (by omega)
  have x0 : ix (nI (78 + 9 * s)) = 78 + 9 * s := ix_nI (by omega)
  have x1 : ix (nI (78 + 9 * s + 1)) = 78 + 9 * s + 1 := ix_nI (by omega)
  have x2 : ix (nI (78 + 9 * s + 2)) = 78 + 9 * s + 2 := ix_nI (by omega)
  unfold X12_does
  rw [n1, n2, x0, x1, x2, hk]
  simp only [i0, i1, i2, ↓reduceIte]
theorem becomes_e {c : Nat} (hc : c < 1740) (v : Int32) (ν : sM) : X12_becomes (nI c) v ν = if rI ν 61 0 c = v then some (0, ν) else some (1, wI ν 61 0 c v) := by
  have i0 : inb (nI c) 1740 = true := inb_nI hc (by omega)
  have x0 : ix (nI c) = c := ix_nI (by omega)
  unfold X12_becomes
  rw [x0]
  simp only [i0, ↓reduceIte]
theorem turnsTo_e (h8 : rR μ 2 l 8 = r + 1) {a : Int32} (ha : a = 0 ∨ a = 1) : X1_turnsTo l a μ = if rI μ 5 r 6 = a then some (0, μ) else some (1, wI μ 5 r 6 a) := by
  unfold X1_turnsTo
  rw [h8, Nat.add_sub_cancel, if_neg (Nat.succ_ne_zero r), if_neg (Nat.succ_ne_zero r), if_pos ha]
theorem stand_sg (h : LfS B μ r l ν) {x : Int32} (hx : x = 0 ∨ x = 1) : SG B r l μ ν (some (x, μ)) (some (x, ν)) := ⟨x, μ, ν, rfl, rfl, hx, h, FrX_r, FrM_r⟩
theorem turns_sg (h : LfS B μ r l ν) {a : Int32} (ha : a = 0 ∨ a = 1) : SG B r l μ ν (X1_turnsTo l a μ) (X12_becomes 7 a ν) := by
  have e7 : rI μ 5 r 6 = rI ν 61 0 7 := h.2.1.1.1.2.2.2.2.2.2.2.1
  rw [turnsTo_e h.1.1 ha, show (7 : Int32) = nI 7 from rfl, becomes_e (by omega), e7]
  by_cases c : rI ν 61 0 7 = a
  · rw [if_pos c, if_pos c]
    exact stand_sg h (Or.inl rfl)
  · rw [if_neg c, if_neg c]
    exact ⟨1, _, _, rfl, rfl, Or.inr rfl, LfS_u h (j := 7) (Or.inr (Or.inr (Or.inr (Or.inl ⟨rfl, ha⟩)))) rfl rfl (by omega) (by omega) rfl (by omega)⟩
theorem gate_sg (h : LfS B μ r l ν) {p : Nat} {v : Int32} (hp : (p : Int) < (rI ν 61 0 0).toInt) (hv : rg v 0 99) : SG B r l μ ν (X1_sets l (nI p) v μ) (X12_becomes (22 + nI p) v ν) := by
  have u0 := h.2.1.2.1.1
  unfold rg at u0
  have p6 : p < 6 := by omega
  have e : rI μ 30 r p = rI ν 61 0 (22 + p) := (h.2.1.1.2.2.1 p hp).2.1
  unfold X1_sets
  rw [l22, becomes_e (by omega), h.1.1, Nat.add_sub_cancel, if_neg (Nat.succ_ne_zero r), if_neg (Nat.succ_ne_zero r), if_pos (inb_nI p6 (by omega)), if_pos (inb_nI p6 (by omega)), ix_nI (by omega), e]
  by_cases c : rI ν 61 0 (22 + p) = v
  · rw [if_pos c, if_pos c]
    exact stand_sg h (Or.inl rfl)
  · rw [if_neg c, if_neg c]
    exact ⟨1, _, _, rfl, rfl, Or.inr rfl, LfS_u h (j := 22 + p) (Or.inr (Or.inr (Or.inr (Or.inr (Or.inr (Or.inr (Or.inr (Or.inl ⟨by omega, by omega, hv⟩)))))))) (cl_ap 1 (by omega) p p6).2 (cl_ap 1 (by omega) p p6).1 (by omega) (by omega) rfl (by omega)⟩
/-! HOURS -/
theorem any_l (hB : 0 ≤ B ∧ B ≤ 1000000000) {n : Nat} (hn : n ≤ 24) : ∀ (k i fu : Nat) (μ ν : sM), i + k = n → k < fu → Rv B μ r ν → (rI ν 61 0 6).toInt + k ≤ 10600 → ∃ g μ' ν', HX r k μ = some (g, μ') ∧ X12_anyHours_L19 fu (nI n) (nI i) ν = some (1, wI ν' 13 0 45 (rI ν 13 0 45 + nI n)) ∧ Rv B μ' r ν' ∧ (rI ν' 61 0 6).toInt = (rI ν 61 0 6).toInt + k ∧ rI ν' 13 0 46 = rI ν 13 0 46 + g ∧ FrM ν ν' ∧ rI ν' 13 0 42 = rI ν 13 0 42 ∧ rI ν' 13 0 47 = rI ν 13 0 47
  | 0, i, fu + 1, μ, ν, h, _, hv, h6 => by
    refine ⟨0, μ, ν, rfl, ?_, hv, by omega, (Int32.add_zero _).symm, FrM_r, rfl, rfl⟩
    unfold X12_anyHours_L19
    rw [if_pos (nI_le (by omega) (by omega))]
  | k + 1, i, fu + 1, μ, ν, h, hf, hv, h6 => by
    obtain ⟨g, μ1, ν1, e1, e2, R1, s6, -, fr, -, k1⟩ := hour2 hv hB (by omega)
    have f13 : ∀ j, rI ν1 13 0 j = rI ν 13 0 j := fun j => fr.1 13 0 j (Or.inl (by decide)) (by decide) (by decide)
    obtain ⟨g', μ', ν', e3, e4, R2, u6, v46, fr2, v42, v47⟩ := any_l hB hn k (i + 1) fu μ1 (wI ν1 13 0 46 (rI ν 13 0 46 + g)) (by omega) (by omega) (Rv_13 R1) (by rw [rI_k (by decide)]; omega)
    rw [rI_k (show (61 : Nat) ≠ 13 by decide)] at u6
    rw [rI_s] at v46
    rw [rI_j (by decide), f13] at v42 v47
    refine ⟨g + g', μ', ν', ?_, ?_, R2, by omega, by rw [v46, Int32.add_assoc], FrM_t (ν1 := wI ν1 13 0 46 (rI ν 13 0 46 + g)) ⟨⟨fun a b c x y w u => ?_, fun a b c => fr.2.1 a b c, fun c hc => ?_⟩, fun c hc => ?_⟩ fr2, v42, v47⟩
    · unfold HX
      rw [e1, bI_s, e3, bI_s]
    · rw [X12_anyHours_L19]
      rw [if_neg (nI_ge (by omega) (by omega)), e2, bI_s, nI_1, e4, rI_j (by decide), f13]
    · rw [rI_wI, if_neg (fun q => by omega)]
      exact fr.1 a b c x y w
    · rw [rI_k (by decide)]
      exact k1 c (by omega)
    · rw [rI_j (by omega), f13]
theorem waits_sg (hB : 0 ≤ B ∧ B ≤ 1000000000) (h : LfS B μ r l ν) {n : Nat} (hn : n ≤ 24) : SG B r l μ ν (X1_waits l (nI n) μ) (X12_anyHours (nI n) ν) := by
  obtain ⟨h1, h2, h3, ⟨a1, a2, a3, a4⟩, h5⟩ := id h
  have e6 : rI μ 5 r 4 = rI ν 61 0 6 := h2.1.1.2.2.2.2.2.2.1
  have b6 := h2.2.2.1.2.2.2.1
  unfold rg at b6
  have nt := nI_toInt (n := n) (by omega)
  have es : (rI ν 61 0 6 + nI n).toInt = (rI ν 61 0 6).toInt + (nI n).toInt := tA (by omega) (by omega)
  unfold X1_waits X12_anyHours X4_hasHours
  rw [h1.1, Nat.add_sub_cancel, if_neg (Nat.succ_ne_zero r), e6]
  simp only [lt_i, le_i, es, show (9999 : Int32).toInt = 9999 from rfl]
  by_cases c : 9999 < (rI ν 61 0 6).toInt + (nI n).toInt
  · rw [if_pos c, if_neg (by omega), bI_s, if_pos rfl]
    exact stand_sg h (Or.inl rfl)
  · rw [if_neg c, if_pos (show (rI ν 61 0 6).toInt + (nI n).toInt ≤ 9999 by omega), bI_s, if_neg n10, h1.1, if_neg (Nat.succ_ne_zero r), Nat.add_sub_cancel]
    obtain ⟨g, μ', ν', e3, e4, R2, u6, v46, fr2, v42, v47⟩ := any_l hB hn n 0 fuN μ ν (by omega) (fuN_6 (by omega)) h2 (by omega)
    rw [nI_0] at e4
    have e5 := passHours_e (by omega) e3
    have kX := X4_passHours_fq r (nI n) μ g μ' e5
    have x2 : ∀ j, rI μ' 2 l j = rI μ 2 l j := fun j => (kX 2 l nQ_2 j).1
    rw [e5, bI_s, e4]
    refine ⟨1, _, _, rfl, rfl, Or.inr rfl, ⟨⟨?_, ?_⟩, Rv_13 (Rv_2 (Rv_2 R2)), ?_, ⟨?_, ?_, ?_, ?_⟩, ?_⟩, FrX_2 (FrX_2 (FrX_Q kX) (by omega)) (by omega), FrM_13 fr2 (by omega)⟩
    · exact ((kX 2 l nQ_2 8).2.2).trans h1.1
    · exact ((kX 2 l nQ_2 9).2.2).trans h1.2
    · rw [rI_k (by decide)]; omega
    · rw [rI_s, rI_s, x2, a1]
    · rw [rI_j (by decide), rI_s, rI_j (by decide), v46, a2]
    · rw [rI_j (by decide), rI_j (by decide), x2, rI_j (by decide), v47, a3]
    · rw [rI_j (by decide), rI_j (by decide), x2, rI_j (by decide), v42, a4]
    · rw [rI_j (by decide), v42]; exact h5
/-! winding -/
theorem winds_sg (h : LfS B μ r l ν) {p : Nat} (b : Int32) (hp : (p : Int) < (rI ν 61 0 2).toInt) : SG B r l μ ν (X1_winds l (nI p) b μ) (X12_isWound (nI p) b ν) := by
  obtain ⟨h1, h2, h3, ⟨a1, a2, a3, a4⟩, h5⟩ := id h
  have u2 := h2.2.1.2.2
  unfold rg at u2
  have p6 : p < 6 := by omega
  have e6 : rI μ 5 r 4 = rI ν 61 0 6 := h2.1.1.2.2.2.2.2.2.1
  unfold X1_winds X12_isWound X4_isLawDay
  rw [h1.1, Nat.add_sub_cancel, if_neg (Nat.succ_ne_zero r), e6]
  by_cases c : irm (rI ν 61 0 6 / 24) 7 = 6
  · have e : X12_winds (nI p) b ν = some (0, ν) := by
      unfold X12_winds X12_isSeventh X12_day
      rw [bI_s, if_pos c, bI_s, if_neg n10]
    rw [if_pos c, bI_s, if_neg n10, e, bI_s, if_pos rfl]
    exact stand_sg h (Or.inl rfl)
  · rw [if_neg c, bI_s, if_pos rfl, h1.1, if_neg (Nat.succ_ne_zero r), Nat.add_sub_cancel, windsM_e p6 c, bI_s, if_neg n10]
    obtain ⟨μ', e3, R3, k3⟩ := letWind_e (b := b) h2.1 h2.2 (p := p) hp
    have kX := X4_letWind_fq r (nI p) b μ μ' e3
    have x2 : ∀ j, rI μ' 2 l j = rI μ 2 l j := fun j => (kX 2 l nQ_2 j).1
    have ec : rI (sC ν 61 0 (wdF (rI ν 61 0) p b)) 61 0 = wdF (rI ν 61 0) p b := funext fun j => sC_s
    have m13 : ∀ j, rI (sC ν 61 0 (wdF (rI ν 61 0) p b)) 13 0 j = rI ν 13 0 j := fun j => sC_k (by decide)
    have R' : Rv B μ' r (sC ν 61 0 (wdF (rI ν 61 0) p b)) := ⟨by rw [ec]; exact R3, by rw [ec]; exact k3⟩
    rw [e3, bV_s]
    refine ⟨1, _, _, rfl, rfl, Or.inr rfl, ⟨⟨?_, ?_⟩, Rv_13 (Rv_2 R'), ?_, ⟨?_, ?_, ?_, ?_⟩, ?_⟩, FrX_2 (FrX_Q kX) (by omega), FrM_13 ⟨⟨fun a b c x y w u => ?_, fun _ _ _ => rfl, fun c hc => ?_⟩, fun c hc => m13 c⟩ (by omega)⟩
    · exact ((kX 2 l nQ_2 8).2.2).trans h1.1
    · exact ((kX 2 l nQ_2 9).2.2).trans h1.2
    · rw [rI_k (by decide), ec, wdF_6 _ _ _ (by omega)]; exact h3
    · rw [rI_j (by decide), x2, rI_j (by decide), m13, a1]
    · rw [rI_j (by decide), x2, rI_j (by decide), m13, a2]
    · rw [rI_s, rI_s, x2, m13, a3]
    · rw [rI_j (by decide), x2, rI_j (by decide), m13, a4]
    · rw [rI_j (by decide), m13]; exact h5
    · rw [rI_sC]
      by_cases q : a = 61 ∧ b = 0
      · rw [if_pos q, q.1, q.2]
        unfold wdF
        rw [upd_n (by omega), upd_n (by omega), upd_n (by omega)]
      · rw [if_neg q]
    · rw [sC_s, wdF_6 _ _ _ (by omega)]
/-! draws -/
def dz (z : Nat) : Nat := (z * 2971 + 10799) % 65536
theorem dz_b (z : Nat) : dz z ≤ 65535 := by
  unfold dz
  omega
theorem dz_e {z : Nat} (hz : z ≤ 65535) : irm (nI z * 2971 + 10799) 65536 = nI (dz z) := by
  rw [show (2971 : Int32) = nI 2971 from rfl, show (10799 : Int32) = nI 10799 from rfl, show (65536 : Int32) = nI 65536 from rfl, pk_mul, nI_add]
  exact pk_rem (by omega) (by omega) (by omega)
theorem dq_e {z n : Nat} (hz : z ≤ 65535) (h0 : 0 < n) (hn : n ≤ 16) : irm (nI z / 8) (nI n) = nI (z / 8 % n) := by
  rw [show (8 : Int32) = nI 8 from rfl, pk_div (by omega) (by omega) (by omega)]
  exact pk_rem (by omega) h0 (by omega)
theorem draw2 (h : LfS B μ r l ν) {n : Nat} (h0 : 0 < n) (hn : n ≤ 16) : ∃ x μ' ν', x < n ∧ X1_drawBy l (nI n) μ = some (nI x, μ') ∧ X12_draw (nI n) ν = some (nI x, ν') ∧ LfS B μ' r l ν' ∧ FrX r l μ μ' ∧ FrM ν ν' ∧ (∀ j, rI ν' 61 0 j = rI ν 61 0 j) := by
  obtain ⟨h1, h2, h3, ⟨a1, a2, a3, a4⟩, h5⟩ := h
  obtain ⟨z, hz, z6, -⟩ := rg_nI (b := 65535) h5
  refine ⟨dz z / 8 % n, wI μ 2 l 7 (nI (dz z)), wI ν 13 0 42 (nI (dz z)), Nat.mod_lt _ h0, ?_, ?_, ⟨h1, Rv_13 (Rv_2 h2), ?_, ⟨?_, ?_, ?_, ?_⟩, ?_⟩, FrX_2 FrX_r (by omega), FrM_13 FrM_r (by omega), fun j => rI_k (by decide)⟩
  · unfold X1_drawBy
    rw [if_neg (nI_nle h0 (by omega)), if_neg (nI_ne0 h0 (by omega)), rI_s, a4, hz, dz_e z6, dq_e (dz_b z) h0 hn]
  · unfold X12_draw
    rw [if_neg (nI_ne0 h0 (by omega)), hz, dz_e z6, dq_e (dz_b z) h0 hn]
  · rw [rI_k (by decide)]; exact h3
  · rw [rI_j (by decide), rI_j (by decide)]; exact a1
  · rw [rI_j (by decide), rI_j (by decide)]; exact a2
  · rw [rI_j (by decide), rI_j (by decide)]; exact a3
  · rw [rI_s, rI_s]
  · rw [rI_s]
    have := nI_toInt (n := dz z) (by have := dz_b z; omega)
    have := dz_b z
    unfold rg
    omega
theorem any_sg (h : LfS B μ r l ν) : SG B r l μ ν (X1_doesAny l μ) (X12_isAny ν) := by
  have h1 := h.1
  have e2 : rI μ 11 r 0 = rI ν 61 0 2 := h.2.1.1.1.2.2.1
  obtain ⟨c, hc, c6, hc'⟩ := rg_nI (b := 6) h.2.1.2.1.2.2
  unfold X1_doesAny X12_isAny
  rw [h1.1, Nat.add_sub_cancel, if_neg (Nat.succ_ne_zero r), if_neg (Nat.succ_ne_zero r), e2, hc]
  by_cases c0 : c = 0
  · subst c0
    rw [if_neg (by decide +kernel), if_pos (by decide +kernel)]
    exact stand_sg h (Or.inl rfl)
  · rw [if_pos (show (0 : Int32) < nI c from nI_lt (a := 0) (by omega) (by omega)), if_neg (nI_ne0 (by omega) (by omega)), show (16 : Int32) = nI 16 from rfl]
    obtain ⟨x, μ1, ν1, hx, d1, d2, L1, f1, g1, k1⟩ := draw2 h (n := 16) (by omega) (by omega)
    rw [d1, d2, bI_s, bI_s, L1.1.1, if_neg (Nat.succ_ne_zero r), Nat.add_sub_cancel, show rI μ1 5 r 3 = rI ν1 61 0 5 from L1.2.1.1.1.2.2.2.2.2.1]
    have key : ∀ v : Int32, v = 0 ∨ v = 1 → SG B r l μ ν (X1_doesAny_J42 l (nI c) v r μ1) (X12_isAny_J37 v 7 ν1) := by
      intro v hv
      obtain ⟨L2, f2, g2⟩ := LfS_u L1 (j := 7) (v := v) (Or.inr (Or.inr (Or.inr (Or.inl ⟨rfl, hv⟩)))) rfl rfl (by omega) (by omega) rfl (by omega)
      obtain ⟨y, μ3, ν3, hy, d3, d4, L3, f3, g3, k3⟩ := draw2 L2 (n := c) (by omega) (by omega)
      have c2 : rI ν3 61 0 2 = nI c := by rw [k3, rI_j (by decide), k1]; exact hc
      obtain ⟨z, μ4, ν4, e4, e5, hz, L4, f4, g4⟩ := winds_sg L3 (p := y) 0 (by rw [c2, nI_toInt (by omega)]; omega)
      refine ⟨z, μ4, ν4, ?_, ?_, hz, L4, FrX_t f1 (FrX_t f2 (FrX_t f3 f4)), FrM_t g1 (FrM_t g2 (FrM_t g3 g4))⟩
      · unfold X1_doesAny_J42
        rw [if_pos hv, show wI μ1 5 r 6 v = wI μ1 (clk 7) r (clp 7) v from rfl]
        show bI (X1_drawBy l (nI c) (wI μ1 5 r 6 v)) _ = _
        rw [show X1_drawBy l (nI c) (wI μ1 5 r 6 v) = some (nI y, μ3) from d3, bI_s, e4, bI_s, if_pos hz]
      · unfold X12_isAny_J37
        rw [if_pos (by decide +kernel), show ix 7 = 7 from by decide +kernel, rI_j (by decide), k1, hc]
        rw [show X12_draw (nI c) (wI ν1 61 0 7 v) = some (nI y, ν3) from d4, bI_s, e5, bI_s, if_pos hz]
    by_cases co : rI ν1 61 0 5 ≤ nI x
    · rw [if_pos co, if_pos co]
      exact key 0 (Or.inl rfl)
    · rw [if_neg co, if_neg co]
      exact key 1 (Or.inr rfl)
theorem stp0 (ν : sM) (s x : Nat) : stp ν 0 s x = rI ν 61 0 (78 + 9 * s + x) := by
  unfold stp
  rw [Nat.mul_zero, Nat.zero_add]
/-- a STEP that is no block and no stop -/
theorem step_sg (hB : 0 ≤ B ∧ B ≤ 1000000000) (h : LfS B μ r l ν) {s p : Nat} (hs : s < 30) (hp : p < 60) (hR : RowR μ 0 ν 0 s p) (h7 : stp ν 0 s 0 < 7) : SG B r l μ ν (X1_isDone l (nI p) μ) (X12_does (nI (78 + 9 * s)) ν) := by
  unfold RowR at hR
  simp only [stp0, Nat.add_zero, Nat.mul_zero, Nat.zero_add] at hR h7
  rcases hR with ⟨k, w, e1, g1⟩ | ⟨k, w, e1, e2, g1, g2, g3⟩ | ⟨k, w⟩ | ⟨k, w, e1, e2, g1, g2, g3⟩ | ⟨k, w⟩ | ⟨k, w⟩ | ⟨k, w⟩ | ⟨k, -⟩ | ⟨k, -⟩ | ⟨k, -⟩
  · rw [isDone_u h.1.2 hp w, does_u hs k, if_neg (by decide +kernel), if_neg (by decide +kernel), if_pos rfl, if_pos rfl, e1]
    unfold rg at g1
    obtain ⟨n, en, hn, hn'⟩ := seg_nI (a := rI ν 61 0 (78 + 9 * s + 1)) (n := 25) (by omega) (by omega) (by omega)
    rw [en]
    exact SG_ck (waits_sg hB h (by omega))
  · have u2 := h.2.1.2.1.2.2
    unfold rg at u2
    rw [isDone_u h.1.2 hp w, if_neg (by decide +kernel), if_neg (by decide +kernel), if_neg (by decide +kernel), if_pos rfl, does_u hs k, if_neg n10, if_pos (show (1 : Int32) = 1 from rfl), e1, e2]
    obtain ⟨n, en, hn, hn'⟩ := seg_nI (a := rI ν 61 0 (78 + 9 * s + 1)) (n := 6) (by omega) (by omega) (by omega)
    rw [en]
    unfold X1_isDone_J138 X12_does_J55
    rcases g1 with c | c
    · rw [c, if_neg (by decide +kernel), if_neg (by decide +kernel)]
      exact SG_ck (winds_sg h 0 (by omega))
    · rw [c, if_pos rfl, if_pos rfl]
      exact SG_ck (winds_sg h 1 (by omega))
  · rw [isDone_u h.1.2 hp w, if_neg (by decide +kernel), if_neg (by decide +kernel), if_neg (by decide +kernel), if_neg (by decide +kernel), if_pos rfl, h.1.1, if_neg (Nat.succ_ne_zero r), Nat.add_sub_cancel, does_u hs k, if_neg (by decide +kernel), if_neg (by decide +kernel), if_neg (by decide +kernel), if_neg (by decide +kernel), if_pos rfl]
    exact ⟨1, _, _, rfl, rfl, Or.inr rfl, LfS_u h (j := 8) (Or.inr (Or.inr (Or.inr (Or.inr (Or.inl ⟨rfl, ⟨by decide +kernel, by decide +kernel⟩⟩))))) rfl rfl (by omega) (by omega) rfl (by omega)⟩
  · have u0 := h.2.1.2.1.1
    unfold rg at u0
    rw [isDone_u h.1.2 hp w, does_u hs k, if_neg (by decide +kernel), if_pos rfl, if_neg (by decide +kernel), if_neg (by decide +kernel), if_pos rfl, e1, e2]
    obtain ⟨n, en, hn, hn'⟩ := seg_nI (a := rI ν 61 0 (78 + 9 * s + 1)) (n := 6) (by omega) (by omega) (by omega)
    rw [en]
    exact SG_ck (gate_sg h (by omega) g1)
  · rw [isDone_u h.1.2 hp w, does_u hs k, if_pos rfl, if_neg (by decide +kernel), if_neg (by decide +kernel), if_neg (by decide +kernel), if_neg (by decide +kernel), if_neg (by decide +kernel), if_pos rfl]
    unfold X12_does_J117
    exact SG_ck (turns_sg h (Or.inr rfl))
  · rw [isDone_u h.1.2 hp w, does_u hs k, if_neg (by decide +kernel), if_neg (by decide +kernel), if_neg (by decide +kernel), if_neg (by decide +kernel), if_neg (by decide +kernel), if_pos rfl, if_neg (by decide +kernel), if_neg (by decide +kernel), if_neg (by decide +kernel), if_neg (by decide +kernel), if_neg (by decide +kernel), if_neg (by decide +kernel)]
    unfold X12_does_J117
    exact SG_ck (turns_sg h (Or.inl rfl))
  · rw [isDone_u h.1.2 hp w, does_u hs k, if_neg (by decide +kernel), if_neg (by decide +kernel), if_neg (by decide +kernel), if_neg (by decide +kernel), if_neg (by decide +kernel), if_neg (by decide +kernel), if_pos rfl, if_neg (by decide +kernel), if_neg (by decide +kernel), if_neg (by decide +kernel), if_pos rfl]
    exact SG_ck (any_sg h)
  · rw [k] at h7; exact absurd h7 (by decide +kernel)
  · rw [k] at h7; exact absurd h7 (by decide +kernel)
  · rw [k] at h7; exact absurd h7 (by decide +kernel)
/-! a TEST -/
theorem test2 (h : LfS B μ r l ν) {s p : Nat} (hs : s < 30) (hp : p < 60) (hR : RowR μ 0 ν 0 s p) (h7 : stp ν 0 s 0 = 7) : ∃ x, (x = 0 ∨ x = 1) ∧ X1_holds l (nI p) μ = some (x, μ) ∧ X12_isSo (nI (78 + 9 * s)) ν = some (x, ν) := by
  have i60 : inb (nI p) 60 = true := inb_nI hp (by omega)
  have xp : ix (nI p) = p := ix_nI (by omega)
  have i6 : inb (nI (78 + 9 * s + 6)) 1740 = true := inb_nI (by omega) (by omega)
  have x6 : ix (nI (78 + 9 * s + 6)) = 78 + 9 * s + 6 := ix_nI (by omega)
  have i1 : inb (nI (78 + 9 * s + 1)) 1740 = true := inb_nI (by omega) (by omega)
  have x1 : ix (nI (78 + 9 * s + 1)) = 78 + 9 * s + 1 := ix_nI (by omega)
  have i2 : inb (nI (78 + 9 * s + 2)) 1740 = true := inb_nI (by omega) (by omega)
  have x2 : ix (nI (78 + 9 * s + 2)) = 78 + 9 * s + 2 := ix_nI (by omega)
  have i7 : inb (nI (78 + 9 * s + 7)) 1740 = true := inb_nI (by omega) (by omega)
  have x7 : ix (nI (78 + 9 * s + 7)) = 78 + 9 * s + 7 := ix_nI (by omega)
  have cmp : ∀ (V : Int32) (c : Nat), c < 76 → rI ν 61 0 c = V → rI μ 45 0 p = rI ν 61 0 (78 + 9 * s + 2) → rI μ 47 0 p = rI ν 61 0 (78 + 9 * s + 7) → (rI ν 61 0 (78 + 9 * s + 7) = 60 ∨ rI ν 61 0 (78 + 9 * s + 7) = 61 ∨ rI ν 61 0 (78 + 9 * s + 7) = 62) → ∀ (q : Int32), q + rI ν 61 0 (78 + 9 * s + 1) = nI c → ∃ x, (x = 0 ∨ x = 1) ∧ X1_compares l V (nI p) μ = some (x, μ) ∧ X12_isSo_J47 (nI (78 + 9 * s)) q ν = some (x, ν) := by
    intro V c hc hV e1 e2 e3 q hq
    have ic : inb (nI c) 1740 = true := inb_nI (by omega) (by omega)
    have xc : ix (nI c) = c := ix_nI (by omega)
    unfold X1_compares X12_isSo_J47
    rw [n1, n2, n7, x1, x2, x7, hq, xc, xp]
    simp only [h.1.2, i60, i1, i2, i7, ic, ↓reduceIte, e1, e2, hV]
    rcases e3 with d | d | d
    · rw [d, if_pos rfl, if_pos rfl]
      by_cases z : rI ν 61 0 (78 + 9 * s + 2) ≤ V
      · exact ⟨0, Or.inl rfl, if_pos z, if_pos z⟩
      · exact ⟨1, Or.inr rfl, if_neg z, if_neg z⟩
    · have q1 : ¬ (61 : Int32) = 60 := by decide +kernel
      have q2 : ¬ (61 : Int32) = 62 := by decide +kernel
      rw [d, if_neg q1, if_neg q2, if_neg q1, if_neg q2]
      by_cases z : V = rI ν 61 0 (78 + 9 * s + 2)
      · exact ⟨1, Or.inr rfl, if_pos z, if_pos z⟩
      · exact ⟨0, Or.inl rfl, if_neg z, if_neg z⟩
    · have q1 : ¬ (62 : Int32) = 60 := by decide +kernel
      have q2 : (62 : Int32) = 62 := rfl
      rw [d, if_neg q1, if_pos q2, if_neg q1, if_pos q2]
      by_cases z : V ≤ rI ν 61 0 (78 + 9 * s + 2)
      · exact ⟨0, Or.inl rfl, if_pos z, if_pos z⟩
      · exact ⟨1, Or.inr rfl, if_neg z, if_neg z⟩
  have u0 := h.2.1.2.1.1
  have u1 := h.2.1.2.1.2.1
  unfold rg at u0 u1
  unfold RowR at hR
  simp only [stp0, Nat.add_zero, Nat.mul_zero, Nat.zero_add] at hR h7
  rw [h7] at hR
  rcases hR with ⟨k, -⟩ | ⟨k, -⟩ | ⟨k, -⟩ | ⟨k, -⟩ | ⟨k, -⟩ | ⟨k, -⟩ | ⟨k, -⟩ | ⟨-, -, hR⟩ | ⟨k, -⟩ | ⟨k, -⟩
  · exact absurd k (by decide +kernel)
  · exact absurd k (by decide +kernel)
  · exact absurd k (by decide +kernel)
  · exact absurd k (by decide +kernel)
  · exact absurd k (by decide +kernel)
  · exact absurd k (by decide +kernel)
  · exact absurd k (by decide +kernel)
  · unfold X1_holds X12_isSo
    rw [n6, x6, xp, h.1.1, Nat.add_sub_cancel]
    simp only [h.1.2, i60, i6, ↓reduceIte, Nat.succ_ne_zero]
    rcases hR with ⟨t1, t2⟩ | ⟨t1, t2, t3, t4, t5, t6, t7, t8⟩ | ⟨t1, t2, t3, t4, t5, t6, t7, t8⟩
    · have e7 : rI μ 5 r 6 = rI ν 61 0 7 := h.2.1.1.1.2.2.2.2.2.2.2.1
      have o7 := h.2.1.2.2.1.2.2.2.2.1
      rw [t1, t2, if_neg (by decide +kernel), if_neg (by decide +kernel), if_pos rfl, e7, if_pos o7]
      rcases o7 with z | z
      · exact ⟨0, Or.inl rfl, by rw [z], by rw [z, if_neg (by decide +kernel)]⟩
      · exact ⟨1, Or.inr rfl, by rw [z], by rw [z, if_pos rfl]⟩
    · obtain ⟨n, en, hn, hn'⟩ := seg_nI (a := rI ν 61 0 (78 + 9 * s + 1)) (n := 6) (by omega) (by omega) (by omega)
      obtain ⟨x, hx, y1, y2⟩ := cmp (rI μ 31 r n) (28 + n) (by omega) (h.2.1.1.2.2.1 n (by omega)).2.2.symm t4 t5 t8 28 (by rw [en]; exact l28 n)
      refine ⟨x, hx, ?_, ?_⟩
      · rw [t2, if_pos rfl, t3, en, if_pos (inb_nI hn (by omega)), ix_nI (by omega), y1, bI_s, if_pos hx]
      · rw [t1, if_neg (by decide +kernel), if_pos rfl, y2]
    · obtain ⟨n, en, hn, hn'⟩ := seg_nI (a := rI ν 61 0 (78 + 9 * s + 1)) (n := 6) (by omega) (by omega) (by omega)
      obtain ⟨x, hx, y1, y2⟩ := cmp (rI μ 27 r n) (46 + n) (by omega) (h.2.1.1.2.2.2.1 n (by omega)).2.2.symm t4 t5 t8 46 (by rw [en]; exact l46 n)
      refine ⟨x, hx, ?_, ?_⟩
      · rw [t2, if_neg (by decide +kernel), if_pos rfl, t3, en, if_pos (inb_nI hn (by omega)), ix_nI (by omega), y1, bI_s, if_pos hx]
      · rw [t1, if_neg (by decide +kernel), if_neg (by decide +kernel), y2]
  · exact absurd k (by decide +kernel)
  · exact absurd k (by decide +kernel)
end C98f
