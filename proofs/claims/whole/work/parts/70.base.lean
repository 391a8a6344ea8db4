/-! 70: numbers, memories; a RIVER of the class beside the reference's cells -/
theorem tA {a b : Int32} (h1 : -2147483648 ≤ a.toInt + b.toInt) (h2 : a.toInt + b.toInt < 2147483648) : (a + b).toInt = a.toInt + b.toInt := by
  rw [Int32.toInt_add]
  exact Int.bmod_eq_of_le (by omega) (by omega)
theorem tS {a b : Int32} (h1 : -2147483648 ≤ a.toInt - b.toInt) (h2 : a.toInt - b.toInt < 2147483648) : (a - b).toInt = a.toInt - b.toInt := by
  rw [Int32.toInt_sub]
  exact Int.bmod_eq_of_le (by omega) (by omega)
theorem tM {a b : Int32} (h1 : -2147483648 ≤ a.toInt * b.toInt) (h2 : a.toInt * b.toInt < 2147483648) : (a * b).toInt = a.toInt * b.toInt := by
  rw [Int32.toInt_mul]
  exact Int.bmod_eq_of_le (by omega) (by omega)
theorem tN {a : Int32} (h1 : -2147483648 < a.toInt) : (-a).toInt = -a.toInt := by
  rw [Int32.toInt_neg]
  have := Int32.toInt_lt a
  exact Int.bmod_eq_of_le (by omega) (by omega)
theorem tAL {a b : Int64} (h1 : -9223372036854775808 ≤ a.toInt + b.toInt) (h2 : a.toInt + b.toInt < 9223372036854775808) : (a + b).toInt = a.toInt + b.toInt := by
  rw [Int64.toInt_add]
  exact Int.bmod_eq_of_le (by omega) (by omega)
theorem tSL {a b : Int64} (h1 : -9223372036854775808 ≤ a.toInt - b.toInt) (h2 : a.toInt - b.toInt < 9223372036854775808) : (a - b).toInt = a.toInt - b.toInt := by
  rw [Int64.toInt_sub]
  exact Int.bmod_eq_of_le (by omega) (by omega)
theorem tX (a : Int32) : a.toInt64.toInt = a.toInt := Int32.toInt_toInt64 a
theorem ix_eq {a : Int32} (h : 0 ≤ a.toInt) : (ix a : Int) = a.toInt := by
  show (a.toNatClampNeg : Int) = a.toInt
  rw [Int32.toNatClampNeg]
  omega
theorem inb_of {a : Int32} {n : Nat} (h0 : 0 ≤ a.toInt) (h1 : a.toInt < n) : inb a n = true := by
  unfold inb
  have hn : ¬ a < 0 := by rw [Int32.lt_iff_toInt_lt, Int32.toInt_zero]; omega
  have h2 := ix_eq h0
  have hm : ¬ n ≤ a.toNatClampNeg := by
    have : (ix a : Int) < n := by omega
    show ¬ n ≤ ix a
    omega
  simp [hn, hm]
theorem ix_nI {n : Nat} (h : n < 2 ^ 31) : ix (nI n) = n := nI_clamp h
theorem inb_nI {j n : Nat} (h : j < n) (hn : n < 2 ^ 31) : inb (nI j) n = true := inb_of (by rw [nI_toInt (by omega)]; omega) (by rw [nI_toInt (by omega)]; omega)
theorem nI_lit (n : Nat) : (OfNat.ofNat n : Int32) = nI n := rfl
theorem litA (a j : Nat) [OfNat Int32 a] (h : (OfNat.ofNat a : Int32) = nI a) : (OfNat.ofNat a : Int32) + nI j = nI (a + j) := by
  rw [h]
  exact nI_add a j
/-- two memories alike -/
theorem sM_ext {μ ν : sM} (h1 : ∀ k i j, rI μ k i j = rI ν k i j) (h2 : ∀ k i j, rL μ k i j = rL ν k i j) (h3 : ∀ k i j, rR μ k i j = rR ν k i j) : μ = ν := by
  obtain ⟨a, b, c⟩ := μ
  obtain ⟨a', b', c'⟩ := ν
  have e1 : a = a' := funext fun k => funext fun i => funext fun j => h1 k i j
  have e2 : b = b' := funext fun k => funext fun i => funext fun j => h2 k i j
  have e3 : c = c' := funext fun k => funext fun i => funext fun j => h3 k i j
  rw [e1, e2, e3]
theorem rI_s {μ : sM} {k i j : Nat} {v : Int32} : rI (wI μ k i j v) k i j = v := if_pos ⟨rfl, rfl, rfl⟩
theorem rL_s {μ : sM} {k i j : Nat} {v : Int64} : rL (wL μ k i j v) k i j = v := if_pos ⟨rfl, rfl, rfl⟩
theorem rI_k {μ : sM} {k i j : Nat} {v : Int32} {a b c : Nat} (h : a ≠ k) : rI (wI μ k i j v) a b c = rI μ a b c := if_neg (fun q => h q.1)
theorem rL_k {μ : sM} {k i j : Nat} {v : Int64} {a b c : Nat} (h : a ≠ k) : rL (wL μ k i j v) a b c = rL μ a b c := if_neg (fun q => h q.1)
theorem rI_j {μ : sM} {k i j : Nat} {v : Int32} {a b c : Nat} (h : c ≠ j) : rI (wI μ k i j v) a b c = rI μ a b c := if_neg (fun q => h q.2.1)
theorem rL_j {μ : sM} {k i j : Nat} {v : Int64} {a b c : Nat} (h : c ≠ j) : rL (wL μ k i j v) a b c = rL μ a b c := if_neg (fun q => h q.2.1)
theorem bI_s {β : Type} (x : Int32) (ρ : sM) (k : Int32 → sM → Option β) : bI (some (x, ρ)) k = k x ρ := rfl
theorem bL_s {β : Type} (x : Int64) (ρ : sM) (k : Int64 → sM → Option β) : bL (some (x, ρ)) k = k x ρ := rfl
theorem bA_s {β : Type} (x : Nat) (ρ : sM) (k : Nat → sM → Option β) : bA (some (x, ρ)) k = k x ρ := rfl
theorem bV_s {β : Type} (ρ : sM) (k : sM → Option β) : bV (some ρ) k = k ρ := rfl
/-! ranges -/
def rg (x : Int32) (a b : Int) : Prop := a ≤ x.toInt ∧ x.toInt ≤ b
/-- a RIVER's numbers, as the reference lays them, in their ranges; B bounds what has run -/
def OkR (B : Int) (f : Nat → Int32) : Prop :=
  (rg (f 0) 0 6 ∧ rg (f 1) 0 6 ∧ rg (f 2) 0 6) ∧ (rg (f 3) 0 9 ∧ rg (f 4) 0 99 ∧ rg (f 5) 0 16 ∧ rg (f 6) 0 10600 ∧ (f 7 = 0 ∨ f 7 = 1) ∧ rg (f 8) 0 12 ∧ rg (f 9) (-60) 60) ∧
  (∀ j, j < 6 → rg (f (10 + j)) (-(10000 * (f 6).toInt + B)) (10000 * (f 6).toInt + B)) ∧
  (∀ j : Nat, (j : Int) < (f 0).toInt → rg (f (16 + j)) 0 999 ∧ rg (f (22 + j)) 0 99 ∧ 0 ≤ (f (28 + j)).toInt ∧ (f (28 + j)).toInt ≤ (f (16 + j)).toInt) ∧
  (∀ j : Nat, (j : Int) < (f 1).toInt → 0 ≤ (f (34 + j)).toInt ∧ (f (34 + j)).toInt < (f 0).toInt ∧ rg (f (40 + j)) 1 99 ∧ 0 ≤ (f (46 + j)).toInt ∧ (f (46 + j)).toInt ≤ (f 6).toInt) ∧
  (∀ j : Nat, (j : Int) < (f 2).toInt → rg (f (52 + j)) 1 40 ∧ rg (f (58 + j)) 0 99)
/-- the class's river r shows the numbers f -/
def Riv (μ : sM) (r : Nat) (f : Nat → Int32) : Prop :=
  (rI μ 4 r 0 = f 0 ∧ rI μ 3 r 0 = f 1 ∧ rI μ 11 r 0 = f 2 ∧ rI μ 5 r 1 = f 3 ∧ rI μ 5 r 2 = f 4 ∧ rI μ 5 r 3 = f 5 ∧ rI μ 5 r 4 = f 6 ∧ rI μ 5 r 6 = f 7 ∧ rI μ 5 r 5 = f 8 ∧ rI μ 5 r 0 = f 9) ∧
  (∀ j, j < 6 → rL μ 34 r j = (f (10 + j)).toInt64) ∧
  (∀ j : Nat, (j : Int) < (f 0).toInt → rI μ 29 r j = f (16 + j) ∧ rI μ 30 r j = f (22 + j) ∧ rI μ 31 r j = f (28 + j)) ∧
  (∀ j : Nat, (j : Int) < (f 1).toInt → rI μ 25 r j = f (34 + j) ∧ rI μ 26 r j = f (40 + j) ∧ rI μ 27 r j = f (46 + j)) ∧
  (∀ j : Nat, (j : Int) < (f 2).toInt → rI μ 51 r j = f (52 + j) ∧ rI μ 52 r j = f (58 + j) ∧ rI μ 53 r j = f (64 + j) ∧ rI μ 54 r j = f (70 + j))
