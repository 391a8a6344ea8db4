/-! 80: the class's memory μ beside the reference's ν -/
def kq (P : Nat → Nat → Nat → Bool) (μ ρ : sM) : Prop := ∀ k i j, P k i j = true → rI ρ k i j = rI μ k i j ∧ rL ρ k i j = rL μ k i j
theorem kq_r {P : Nat → Nat → Nat → Bool} {μ : sM} : kq P μ μ := fun _ _ _ _ => ⟨rfl, rfl⟩
theorem kq_t {P : Nat → Nat → Nat → Bool} {μ ν ρ : sM} (h : kq P μ ν) (h' : kq P ν ρ) : kq P μ ρ := fun k i j hk => ⟨(h' k i j hk).1.trans (h k i j hk).1, (h' k i j hk).2.trans (h k i j hk).2⟩
theorem kq_wI {P : Nat → Nat → Nat → Bool} {μ ν : sM} {k i j : Nat} {v : Int32} (hk : P k i j = false) (h : kq P μ ν) : kq P μ (wI ν k i j v) := fun a b c ha => ⟨by
  rw [rI_wI, if_neg (fun q => by rw [q.1, q.2.1, q.2.2, hk] at ha; cases ha)]
  exact (h a b c ha).1, (h a b c ha).2⟩
theorem kq_wL {P : Nat → Nat → Nat → Bool} {μ ν : sM} {k i j : Nat} {v : Int64} (hk : P k i j = false) (h : kq P μ ν) : kq P μ (wL ν k i j v) := fun a b c ha => ⟨(h a b c ha).1, by
  rw [rL_wL, if_neg (fun q => by rw [q.1, q.2.1, q.2.2, hk] at ha; cases ha)]
  exact (h a b c ha).2⟩
theorem kq_wR {P : Nat → Nat → Nat → Bool} {μ ν : sM} {k i j : Nat} {v : Nat} (h : kq P μ ν) : kq P μ (wR ν k i j v) := fun a b c ha => h a b c ha
theorem kq_sC {P : Nat → Nat → Nat → Bool} {μ ν : sM} {k i : Nat} {F : Nat → Int32} (hk : ∀ j, P k i j = true → F j = rI μ k i j) (h : kq P μ ν) : kq P μ (sC ν k i F) := fun a b c ha => ⟨by
  rw [rI_sC]
  by_cases q : a = k ∧ b = i
  · rw [if_pos q, q.1, q.2]
    rw [q.1, q.2] at ha
    exact hk c ha
  · rw [if_neg q]
    exact (h a b c ha).1, (h a b c ha).2⟩
theorem kq_k {P : Nat → Nat → Nat → Bool} {P' : Nat → Nat → Bool} {μ ρ : sM} (h : keep P' μ ρ) (hP : ∀ k i j, P k i j = true → P' k i = true) : kq P μ ρ := fun k i j hk => ⟨(h k i (hP k i j hk) j).1, (h k i (hP k i j hk) j).2.1⟩
theorem kq_m {P P' : Nat → Nat → Nat → Bool} {μ ρ : sM} (h : kq P' μ ρ) (hP : ∀ k i j, P k i j = true → P' k i j = true) : kq P μ ρ := fun k i j hk => h k i j (hP k i j hk)
theorem kq_f {P : Nat → Nat → Nat → Bool} {ν ν' : sM} (h : mfr ν ν') (hP : ∀ k i j, P k i j = true → (k ≠ 61 ∨ 76 ≤ j ∨ i ≠ 0) ∧ k ≠ 65 ∧ k ≠ 66) : kq P ν ν' := fun k i j hk => ⟨h.1 k i j (hP k i j hk).1 (hP k i j hk).2.1 (hP k i j hk).2.2, h.2.1 k i j⟩
/-! the parts -/
/-- FRACTION -/
def RelF (μ ν : sM) : Prop := rL μ 12 0 1 = rL ν 13 0 2 ∧ rL μ 12 0 2 = rL ν 13 0 3
def qF (k _ j : Nat) : Bool := (k == 12 && (j == 1 || j == 2)) || (k == 13 && (j == 2 || j == 3))
/-- TRAYS -/
def RelT (μ ν : sM) : Prop := ∀ t : Nat, t < 4 → rI μ 42 0 t = rI ν 58 0 t ∧ (rI ν 58 0 t = -1 ∨ (rg (rI ν 58 0 t) 0 60 ∧ rI μ 41 0 t = rI ν 57 0 t ∧ rg (rI ν 57 0 t) 0 3 ∧ ∀ j : Nat, (j : Int) < (rI ν 58 0 t).toInt → rL μ 40 t j = rL ν 59 0 (60 * t + j)))
def qT (k _ _ : Nat) : Bool := k == 40 || (k == 41 || (k == 42 || (k == 57 || (k == 58 || k == 59))))
/-- the tape, FAULTS -/
def RelP (μ ν : sM) : Prop := (rI μ 7 0 1 = rI ν 13 0 8 ∧ rg (rI ν 13 0 8) 0 900 ∧ ∀ j : Nat, (j : Int) < (rI ν 13 0 8).toInt → rI μ 35 0 j = rI ν 60 0 j ∧ rg (rI ν 60 0 j) (-128) 127) ∧ rI μ 7 0 2 = rI ν 13 0 10 ∧ rI μ 7 0 3 = rI ν 13 0 11
def qP (k _ j : Nat) : Bool := (k == 7 && (j == 1 || (j == 2 || j == 3))) || (k == 35 || (k == 60 || (k == 13 && (j == 8 || (j == 10 || j == 11)))))
/-- a NAME: its letters as both sides keep them -/
def e256 : List Nat → Int64 → Int64
  | [], v => v
  | x :: t, v => e256 t (v * 256 + Int64.ofNat (x + 96))
def e32 : List Nat → Int64 → Int64
  | [], v => v
  | x :: t, v => e32 t (v * 32 + Int64.ofNat x)
def nmR (a b : Int64) : Prop := ∃ l : List Nat, l.length ≤ 8 ∧ (∀ x ∈ l, 1 ≤ x ∧ x ≤ 26) ∧ a = e256 l 0 ∧ b = e32 l 0
/-- the NAMES of the class's river r beside block b -/
def RelN (μ : sM) (r : Nat) (ν : sM) (b : Nat) : Prop :=
  (∀ j : Nat, (j : Int) < (rI ν 61 0 (348 * b)).toInt → nmR (rL μ 28 r j) (rL ν 64 0 (18 * b + j))) ∧
  (∀ j : Nat, (j : Int) < (rI ν 61 0 (348 * b + 1)).toInt → nmR (rL μ 24 r j) (rL ν 64 0 (18 * b + 6 + j))) ∧
  (∀ j : Nat, (j : Int) < (rI ν 61 0 (348 * b + 2)).toInt → nmR (rL μ 50 r j) (rL ν 64 0 (18 * b + 12 + j)))
/-- a RIVER of the class beside block b -/
def RelR (B : Int) (μ : sM) (r : Nat) (ν : sM) (b : Nat) : Prop := Riv μ r (fun j => rI ν 61 0 (348 * b + j)) ∧ OkR B (fun j => rI ν 61 0 (348 * b + j)) ∧ RelN μ r ν b ∧ (rI ν 61 0 (348 * b + 6)).toInt ≤ 9999
/-- a STEP: the class's row p beside the reference's step s -/
def stp (ν : sM) (b s x : Nat) : Int32 := rI ν 61 0 (348 * b + 78 + 9 * s + x)
def RowR (μ : sM) (w : Nat) (ν : sM) (b s p : Nat) : Prop :=
  (stp ν b s 0 = 0 ∧ rI μ 43 w p = 14 ∧ rI μ 45 w p = stp ν b s 1 ∧ rg (stp ν b s 1) 1 24) ∨
  (stp ν b s 0 = 1 ∧ rI μ 43 w p = 15 ∧ rI μ 44 w p = stp ν b s 1 ∧ rI μ 45 w p = stp ν b s 2 ∧ (stp ν b s 2 = 0 ∨ stp ν b s 2 = 1) ∧ 0 ≤ (stp ν b s 1).toInt ∧ (stp ν b s 1).toInt < (rI ν 61 0 (348 * b + 2)).toInt) ∨
  (stp ν b s 0 = 2 ∧ rI μ 43 w p = 17) ∨
  (stp ν b s 0 = 3 ∧ rI μ 43 w p = 6 ∧ rI μ 44 w p = stp ν b s 1 ∧ rI μ 45 w p = stp ν b s 2 ∧ rg (stp ν b s 2) 0 99 ∧ 0 ≤ (stp ν b s 1).toInt ∧ (stp ν b s 1).toInt < (rI ν 61 0 (348 * b)).toInt) ∨
  (stp ν b s 0 = 4 ∧ rI μ 43 w p = 2) ∨ (stp ν b s 0 = 5 ∧ rI μ 43 w p = 18) ∨ (stp ν b s 0 = 6 ∧ rI μ 43 w p = 19) ∨
  (stp ν b s 0 = 7 ∧ rI μ 43 w p = 20 ∧
    ((stp ν b s 6 = 2 ∧ rI μ 46 w p = 23) ∨
     (stp ν b s 6 = 0 ∧ rI μ 46 w p = 21 ∧ rI μ 44 w p = stp ν b s 1 ∧ rI μ 45 w p = stp ν b s 2 ∧ rI μ 47 w p = stp ν b s 7 ∧ 0 ≤ (stp ν b s 1).toInt ∧ (stp ν b s 1).toInt < (rI ν 61 0 (348 * b)).toInt ∧ (stp ν b s 7 = 60 ∨ stp ν b s 7 = 61 ∨ stp ν b s 7 = 62)) ∨
     (stp ν b s 6 = 1 ∧ rI μ 46 w p = 22 ∧ rI μ 44 w p = stp ν b s 1 ∧ rI μ 45 w p = stp ν b s 2 ∧ rI μ 47 w p = stp ν b s 7 ∧ 0 ≤ (stp ν b s 1).toInt ∧ (stp ν b s 1).toInt < (rI ν 61 0 (348 * b + 1)).toInt ∧ (stp ν b s 7 = 60 ∨ stp ν b s 7 = 61 ∨ stp ν b s 7 = 62)))) ∨
  (stp ν b s 0 = 8 ∧ rI μ 43 w p = 24 ∧ rI μ 45 w p = stp ν b s 1 ∧ rg (stp ν b s 1) 1 99) ∨
  (stp ν b s 0 = 9 ∧ rI μ 43 w p = 26)
/-- steps s to e of the reference, one level, are the class's rows p to q; d levels at most are below it -/
def Seg (μ : sM) (w : Nat) (ν : sM) (b : Nat) : Nat → Nat → Nat → Nat → Nat → Nat → Prop
  | 0, _, s, e, p, q => s = e ∧ p = q
  | n + 1, d, s, e, p, q => (s = e ∧ p = q) ∨ (s < e ∧ p < q ∧ RowR μ w ν b s p ∧
    ((stp ν b s 0 ≠ 7 ∧ stp ν b s 0 ≠ 8 ∧ stp ν b s 8 = nI (s + 1) ∧ Seg μ w ν b n d (s + 1) e (p + 1) q) ∨
     ((stp ν b s 0 = 7 ∨ stp ν b s 0 = 8) ∧ ∃ e1 p1 : Nat, stp ν b s 8 = nI e1 ∧ s < e1 ∧ e1 ≤ e ∧ p < p1 ∧ p1 < q ∧ (0 < d ∧ Seg μ w ν b n (d - 1) (s + 1) e1 (p + 1) p1) ∧ rI μ 43 w p1 = 25 ∧ rI μ 48 w p1 = nI p ∧ rI μ 48 w p = nI p1 ∧ Seg μ w ν b n d e1 e (p1 + 1) q)))
/-- WEEKS -/
def RelW (μ : sM) (w : Nat) (ν : sM) (b : Nat) : Prop := rI μ 9 w 0 = rI ν 61 0 (348 * b + 76) ∧ rI μ 9 w 1 = rI ν 61 0 (348 * b + 77) ∧ ((rI μ 9 w 0 = 0) ∨ (rI μ 9 w 0 = 1 ∧ ∃ S p : Nat, rI μ 9 w 1 = nI S ∧ S ≤ 30 ∧ rI μ 9 w 2 = nI p ∧ p ≤ 60 ∧ Seg μ w ν b 30 3 0 S 0 p)) ∧ rg (rI μ 9 w 2) 0 60
/-- MARKS -/
def RelK (B : Int) (μ ν : sM) : Prop := rI μ 12 0 3 = rI ν 13 0 24 ∧ ∃ k : Nat, rI ν 13 0 24 = nI k ∧ k ≤ 3 ∧ ∀ i : Nat, i < k → RelR B μ (1 + i) ν (1 + i) ∧ RelW μ (1 + i) ν (1 + i)
/-- WEEKS lived -/
def RelV (μ ν : sM) : Prop := rI μ 2 0 0 = rI ν 13 0 40 ∧ (rI ν 13 0 40 = 0 ∨ rI ν 13 0 40 = 1) ∧ (rI ν 13 0 40 = 1 → rI μ 2 0 2 = rI ν 71 0 0 ∧ rI μ 2 0 3 = rI ν 71 0 1 ∧ rI μ 2 0 4 = rI ν 71 0 2 ∧ rI μ 2 0 5 = rI ν 71 0 3 ∧ rI μ 2 0 6 = rI ν 71 0 4)
def qV (k i j : Nat) : Bool := (k == 2 && i == 0) || ((k == 13 && j == 40) || k == 71)
/-- all but the river that is now -/
def qW (w b k i j : Nat) : Bool := (i == w && (k == 9 || (Nat.ble 43 k && Nat.ble k 48))) || (k == 61 && ((Nat.ble (348 * b + 76) j && Nat.ble j (348 * b + 347)) || (j == 348 * b || (j == 348 * b + 1 || j == 348 * b + 2))))
def qN (r b k i j : Nat) : Bool := (i == r && (k == 28 || (k == 24 || k == 50))) || ((k == 64 && (Nat.ble (18 * b) j && Nat.ble j (18 * b + 17))) || (k == 61 && (j == 348 * b || (j == 348 * b + 1 || j == 348 * b + 2))))
def qR (r b k i j : Nat) : Bool := (i == r && rk k) || ((k == 61 && (Nat.ble (348 * b) j && Nat.ble j (348 * b + 75))) || (k == 64 && (Nat.ble (18 * b) j && Nat.ble j (18 * b + 17))))
def Rel (B : Int) (μ ν : sM) : Prop := rI μ 12 0 0 = rI ν 13 0 0 ∧ RelF μ ν ∧ RelT μ ν ∧ RelP μ ν ∧ RelR B μ 0 ν 0 ∧ RelW μ 0 ν 0 ∧ RelK B μ ν ∧ RelV μ ν
