/-! 98j: letters and words -/
section C98j
/-- the words' letters, and where each begins in the class's String -/
def kwT : List (List Nat) := [[20, 21, 18, 14, 19], [19, 12, 1, 3, 11], [18, 1, 9, 14], [15, 4, 4, 19], [18, 5, 1, 3, 8], [2, 1, 14, 11], [7, 1, 20, 5], [8, 15, 12, 4, 19], [13, 9, 12, 12], [1, 20], [14, 5, 5, 4, 19], [23, 9, 14, 4, 5, 18], [19, 20, 18, 5, 14, 7, 20, 8], [23, 1, 7, 5], [8, 15, 21, 18], [23, 9, 14, 4], [2, 1, 3, 11], [15, 9, 12], [4, 18, 25], [1, 14, 25], [23, 8, 5, 14], [19, 20, 15, 18, 5, 4], [7, 18, 15, 21, 14, 4], [18, 1, 9, 14, 9, 14, 7], [12, 15, 15, 16], [5, 14, 4], [19, 20, 15, 16]]
def kwF : List Nat := [0, 6, 12, 17, 22, 28, 33, 38, 44, 49, 52, 58, 65, 74, 79, 84, 89, 94, 98, 102, 106, 111, 118, 125, 133, 138, 142, 147]
def kwl (k : Nat) : List Nat := kwT.getD k []
def kwf (k : Nat) : Nat := kwF.getD k 0
theorem kw_t : ∀ k, k < 27 → (kwl k).length ≤ 8 ∧ 0 < (kwl k).length ∧ kwf k + (kwl k).length < 147 ∧ kwf (k + 1) = kwf k + (kwl k).length + 1 ∧ kWb.getD (kwf k + (kwl k).length) 0 = 32 ∧ (∀ m, m < (kwl k).length → kWb.getD (kwf k + m) 0 = nI ((kwl k).getD m 0 + 96)) ∧ (∀ x ∈ kwl k, 1 ≤ x ∧ x ≤ 26) := by decide +kernel
theorem kw_d : ∀ k, k < 27 → ∀ k', k' < 27 → kwl k = kwl k' → k = k' := by decide +kernel
theorem kw_n : ∀ x, x < 27 → ¬ nI (x + 96) = 32 := by decide +kernel
theorem kw_27 : kwf 27 = 147 := by decide +kernel
/-! letters as one number, either way, tell the letters -/
def g32 : List Nat → Nat
  | [] => 0
  | x :: t => g32 t * 32 + x
def g256 : List Nat → Nat
  | [] => 0
  | x :: t => g256 t * 256 + (x + 96)
def ok8 (l : List Nat) : Prop := l.length ≤ 8 ∧ ∀ x ∈ l, 1 ≤ x ∧ x ≤ 26
theorem e32_g : ∀ (l r : List Nat), e32 l (lN (g32 r)) = lN (g32 (l.reverse ++ r))
  | [], r => rfl
  | x :: t, r => by
    have ih := e32_g t (x :: r)
    show e32 t (lN (g32 r) * 32 + lN x) = _
    rw [show (32 : Int64) = lN 32 from rfl, lN_mul, lN_add, show g32 r * 32 + x = g32 (x :: r) from rfl, ih, List.reverse_cons, List.append_assoc]
    rfl
theorem e256_g : ∀ (l r : List Nat), e256 l (lN (g256 r)) = lN (g256 (l.reverse ++ r))
  | [], r => rfl
  | x :: t, r => by
    have ih := e256_g t (x :: r)
    show e256 t (lN (g256 r) * 256 + lN (x + 96)) = _
    rw [show (256 : Int64) = lN 256 from rfl, lN_mul, lN_add, show g256 r * 256 + (x + 96) = g256 (x :: r) from rfl, ih, List.reverse_cons, List.append_assoc]
    rfl
theorem g32_b : ∀ (l : List Nat), (∀ x ∈ l, 1 ≤ x ∧ x ≤ 26) → g32 l < 32 ^ l.length
  | [], _ => by decide
  | x :: t, h => by
    have a := g32_b t (fun y hy => h y (List.mem_cons_of_mem x hy))
    have b := h x List.mem_cons_self
    rw [List.length_cons, Nat.pow_succ]
    show g32 t * 32 + x < _
    omega
theorem g256_b : ∀ (l : List Nat), (∀ x ∈ l, 1 ≤ x ∧ x ≤ 26) → 2 * g256 l < 256 ^ l.length
  | [], _ => by decide
  | x :: t, h => by
    have a := g256_b t (fun y hy => h y (List.mem_cons_of_mem x hy))
    have b := h x List.mem_cons_self
    rw [List.length_cons, Nat.pow_succ]
    show 2 * (g256 t * 256 + (x + 96)) < _
    omega
theorem g32_i : ∀ (l l' : List Nat), (∀ x ∈ l, 1 ≤ x ∧ x ≤ 26) → (∀ x ∈ l', 1 ≤ x ∧ x ≤ 26) → g32 l = g32 l' → l = l'
  | [], [], _, _, _ => rfl
  | [], y :: t, _, h', e => by
    have b := h' y List.mem_cons_self
    have e' : 0 = g32 t * 32 + y := e
    omega
  | x :: t, [], h, _, e => by
    have b := h x List.mem_cons_self
    have e' : g32 t * 32 + x = 0 := e
    omega
  | x :: t, y :: u, h, h', e => by
    have b := h x List.mem_cons_self
    have c := h' y List.mem_cons_self
    have e' : g32 t * 32 + x = g32 u * 32 + y := e
    have e1 : x = y := by omega
    have e2 : g32 t = g32 u := by omega
    rw [e1, g32_i t u (fun z hz => h z (List.mem_cons_of_mem x hz)) (fun z hz => h' z (List.mem_cons_of_mem y hz)) e2]
theorem g256_i : ∀ (l l' : List Nat), (∀ x ∈ l, 1 ≤ x ∧ x ≤ 26) → (∀ x ∈ l', 1 ≤ x ∧ x ≤ 26) → g256 l = g256 l' → l = l'
  | [], [], _, _, _ => rfl
  | [], y :: t, _, h', e => by
    have b := h' y List.mem_cons_self
    have e' : 0 = g256 t * 256 + (y + 96) := e
    omega
  | x :: t, [], h, _, e => by
    have b := h x List.mem_cons_self
    have e' : g256 t * 256 + (x + 96) = 0 := e
    omega
  | x :: t, y :: u, h, h', e => by
    have b := h x List.mem_cons_self
    have c := h' y List.mem_cons_self
    have e' : g256 t * 256 + (x + 96) = g256 u * 256 + (y + 96) := e
    have e1 : x = y := by omega
    have e2 : g256 t = g256 u := by omega
    rw [e1, g256_i t u (fun z hz => h z (List.mem_cons_of_mem x hz)) (fun z hz => h' z (List.mem_cons_of_mem y hz)) e2]
theorem e32_0 (l : List Nat) : e32 l 0 = lN (g32 l.reverse) := by
  have := e32_g l []
  rw [List.append_nil] at this
  exact this
theorem e256_0 (l : List Nat) : e256 l 0 = lN (g256 l.reverse) := by
  have := e256_g l []
  rw [List.append_nil] at this
  exact this
theorem lN_inj {a b : Nat} (ha : a < 2 ^ 63) (hb : b < 2 ^ 63) (h : lN a = lN b) : a = b := by
  have := congrArg Int64.toInt h
  rw [lN_big ha, lN_big hb] at this
  omega
theorem p8 {n : Nat} (h : n ≤ 8) : 32 ^ n ≤ 2 ^ 40 ∧ 256 ^ n ≤ 2 ^ 64 := by
  have a : 32 ^ n ≤ 32 ^ 8 := Nat.pow_le_pow_right (by omega) h
  have b : 256 ^ n ≤ 256 ^ 8 := Nat.pow_le_pow_right (by omega) h
  exact ⟨Nat.le_trans a (by decide), Nat.le_trans b (by decide)⟩
theorem e32_i {l l' : List Nat} (h : ok8 l) (h' : ok8 l') : e32 l 0 = e32 l' 0 ↔ l = l' := by
  refine ⟨fun e => ?_, fun e => by rw [e]⟩
  rw [e32_0, e32_0] at e
  have r1 : ∀ x ∈ l.reverse, 1 ≤ x ∧ x ≤ 26 := fun x hx => h.2 x (List.mem_reverse.mp hx)
  have r2 : ∀ x ∈ l'.reverse, 1 ≤ x ∧ x ≤ 26 := fun x hx => h'.2 x (List.mem_reverse.mp hx)
  have b1 := g32_b l.reverse r1
  have b2 := g32_b l'.reverse r2
  rw [List.length_reverse] at b1 b2
  have q1 := (p8 h.1).1
  have q2 := (p8 h'.1).1
  have := g32_i _ _ r1 r2 (lN_inj (by omega) (by omega) e)
  exact List.reverse_inj.mp this
theorem e256_i {l l' : List Nat} (h : ok8 l) (h' : ok8 l') : e256 l 0 = e256 l' 0 ↔ l = l' := by
  refine ⟨fun e => ?_, fun e => by rw [e]⟩
  rw [e256_0, e256_0] at e
  have r1 : ∀ x ∈ l.reverse, 1 ≤ x ∧ x ≤ 26 := fun x hx => h.2 x (List.mem_reverse.mp hx)
  have r2 : ∀ x ∈ l'.reverse, 1 ≤ x ∧ x ≤ 26 := fun x hx => h'.2 x (List.mem_reverse.mp hx)
  have b1 := g256_b l.reverse r1
  have b2 := g256_b l'.reverse r2
  rw [List.length_reverse] at b1 b2
  have q1 := (p8 h.1).2
  have q2 := (p8 h'.1).2
  have := g256_i _ _ r1 r2 (lN_inj (by omega) (by omega) e)
  exact List.reverse_inj.mp this
theorem nm_iff {a b a' b' : Int64} (h : nmR a b) (h' : nmR a' b') : a = a' ↔ b = b' := by
  obtain ⟨l, l1, l2, rfl, rfl⟩ := h
  obtain ⟨k, k1, k2, rfl, rfl⟩ := h'
  rw [e256_i ⟨l1, l2⟩ ⟨k1, k2⟩, e32_i ⟨l1, l2⟩ ⟨k1, k2⟩]
theorem kw_ok {k : Nat} (h : k < 27) : ok8 (kwl k) := ⟨(kw_t k h).1, (kw_t k h).2.2.2.2.2.2⟩
/-- the words' numbers in the reference -/
def kw (k : Nat) : Int64 := e32 (kwl k) 0
theorem kw_m1 : ∀ k, k < 27 → ¬ (-1 : Int64) = kw k := by decide +kernel
/-! bytes -/
def isL (b : Nat → Int32) (j : Nat) : Prop := 97 ≤ (b j).toInt ∧ (b j).toInt ≤ 122
def isD (b : Nat → Int32) (j : Nat) : Prop := 48 ≤ (b j).toInt ∧ (b j).toInt ≤ 57
def isB (b : Nat → Int32) (j : Nat) : Prop := b j = 10 ∨ b j = 32
def isS (b : Nat → Int32) (j : Nat) : Prop := b j = 59 ∨ b j = 60 ∨ b j = 62 ∨ b j = 61
/-- from p on, as long as P, to q -/
def Sp (P : Nat → Prop) (n p q : Nat) : Prop := p ≤ q ∧ (∀ j, p ≤ j → j < q → j < n ∧ P j) ∧ (n ≤ q ∨ ¬ P q)
theorem Sp_ex (P : Nat → Prop) (n : Nat) : ∀ (k p : Nat), n ≤ p + k → ∃ q, Sp P n p q ∧ (q ≤ n ∨ q = p)
  | 0, p, h => ⟨p, ⟨Nat.le_refl p, fun j a b => by omega, Or.inl (by omega)⟩, Or.inr rfl⟩
  | k + 1, p, h => by
    by_cases c : p < n ∧ P p
    · obtain ⟨q, ⟨h1, h2, h3⟩, h4⟩ := Sp_ex P n k (p + 1) (by omega)
      refine ⟨q, ⟨by omega, fun j a b => ?_, h3⟩, by omega⟩
      by_cases e : j = p
      · rw [e]; exact c
      · exact h2 j (by omega) b
    · refine ⟨p, ⟨Nat.le_refl p, fun j a b => by omega, ?_⟩, Or.inr rfl⟩
      by_cases d : p < n
      · exact Or.inr (fun z => c ⟨d, z⟩)
      · exact Or.inl (by omega)
theorem Sp_n {P : Nat → Prop} {n p q : Nat} (h : Sp P n p q) (hp : p ≤ n) : q ≤ n := by
  by_cases c : q ≤ p
  · omega
  · have := (h.2.1 (q - 1) (by omega) (by omega)).1
    omega
/-- m letters from s on -/
def ltr (b : Nat → Int32) : Nat → Nat → List Nat
  | _, 0 => []
  | s, m + 1 => (ix (b s) - 96) :: ltr b (s + 1) m
theorem ltr_len (b : Nat → Int32) : ∀ (m s : Nat), (ltr b s m).length = m
  | 0, _ => rfl
  | m + 1, s => by
    show (ltr b (s + 1) m).length + 1 = m + 1
    rw [ltr_len b m (s + 1)]
theorem isL_n {b : Nat → Int32} {j : Nat} (h : isL b j) : ∃ x, 1 ≤ x ∧ x ≤ 26 ∧ b j = nI (x + 96) ∧ ix (b j) - 96 = x := by
  obtain ⟨n, e, hn, hn'⟩ := rg_nI (x := b j) (b := 122) ⟨by have := h.1; omega, h.2⟩
  refine ⟨n - 96, by have := h.1; omega, by omega, ?_, ?_⟩
  · rw [e]
    congr 1
    have := h.1
    omega
  · rw [e, ix_nI (by omega)]
theorem ltr_ok (b : Nat → Int32) : ∀ (m s : Nat), (∀ j, s ≤ j → j < s + m → isL b j) → ∀ x ∈ ltr b s m, 1 ≤ x ∧ x ≤ 26
  | 0, _, _, x, hx => by cases hx
  | m + 1, s, h, x, hx => by
    obtain ⟨y, y1, y2, -, y3⟩ := isL_n (h s (by omega) (by omega))
    rcases List.mem_cons.mp hx with z | z
    · omega
    · exact ltr_ok b m (s + 1) (fun j a c => h j (by omega) (by omega)) x z
theorem ltr_eq (b : Nat → Int32) : ∀ (m s : Nat) (l : List Nat), l.length = m → (∀ j, s ≤ j → j < s + m → isL b j) → (∀ x ∈ l, 1 ≤ x ∧ x ≤ 26) → ((∀ i, i < m → b (s + i) = nI (l.getD i 0 + 96)) ↔ ltr b s m = l)
  | 0, s, l, h, _, _ => by
    have : l = [] := List.length_eq_zero_iff.mp h
    rw [this]
    exact ⟨fun _ => rfl, fun _ i hi => absurd hi (by omega)⟩
  | m + 1, s, [], h, _, _ => by cases h
  | m + 1, s, x :: t, h, hL, hx => by
    have ih := ltr_eq b m (s + 1) t (by simpa using h) (fun j a c => hL j (by omega) (by omega)) (fun y hy => hx y (List.mem_cons_of_mem x hy))
    obtain ⟨y, y1, y2, y3, y4⟩ := isL_n (hL s (by omega) (by omega))
    have bx := hx x List.mem_cons_self
    constructor
    · intro H
      have h0 := H 0 (by omega)
      rw [Nat.add_zero, y3] at h0
      have h0' : y + 96 = x + 96 := (nI_eq (by omega) (by omega)).mp h0
      have ht := ih.mp (fun i hi => by
        have := H (i + 1) (by omega)
        rw [show s + (i + 1) = s + 1 + i by omega] at this
        exact this)
      show (ix (b s) - 96) :: ltr b (s + 1) m = x :: t
      rw [ht, y4]
      congr 1
      omega
    · intro H
      have H' : (ix (b s) - 96) :: ltr b (s + 1) m = x :: t := H
      injection H' with H1 H2
      have ht := ih.mpr H2
      intro i hi
      cases i with
      | zero =>
        rw [Nat.add_zero, y3]
        show nI (y + 96) = nI (x + 96)
        rw [show y = x by omega]
      | succ i =>
        rw [show s + (i + 1) = s + 1 + i by omega]
        exact ht i (by omega)
/-- digits as a number -/
def dgv (b : Nat → Int32) : Nat → Nat → Nat → Nat
  | _, 0, v => v
  | s, m + 1, v => dgv b (s + 1) m (v * 10 + (ix (b s) - 48))
theorem isD_n {b : Nat → Int32} {j : Nat} (h : isD b j) : ∃ x, x ≤ 9 ∧ b j = nI (x + 48) ∧ ix (b j) - 48 = x := by
  obtain ⟨n, e, hn, hn'⟩ := rg_nI (x := b j) (b := 57) ⟨by have := h.1; omega, h.2⟩
  refine ⟨n - 48, by omega, ?_, ?_⟩
  · rw [e]
    congr 1
    have := h.1
    omega
  · rw [e, ix_nI (by omega)]
theorem dgv_b (b : Nat → Int32) : ∀ (m s v : Nat), (∀ j, s ≤ j → j < s + m → isD b j) → dgv b s m v < (v + 1) * 10 ^ m
  | 0, s, v, _ => by
    show v < (v + 1) * 10 ^ 0
    omega
  | m + 1, s, v, h => by
    obtain ⟨x, x9, -, e⟩ := isD_n (h s (by omega) (by omega))
    have ih := dgv_b b m (s + 1) (v * 10 + (ix (b s) - 48)) (fun j a c => h j (by omega) (by omega))
    have q : (v * 10 + (ix (b s) - 48) + 1) * 10 ^ m ≤ ((v + 1) * 10) * 10 ^ m := Nat.mul_le_mul_right _ (by omega)
    rw [Nat.pow_succ, Nat.mul_comm (10 ^ m) 10, ← Nat.mul_assoc]
    exact Nat.lt_of_lt_of_le ih q
/-- the TOKEN that is found from p on: its kind, number, where it starts, where the next is looked for -/
def Tok (b : Nat → Int32) (n p K : Nat) (V : Int64) (s e : Nat) : Prop := Sp (isB b) n p s ∧
  ((n ≤ s ∧ K = 32 ∧ e = n + 1) ∨
   (s < n ∧ isL b s ∧ ∃ q, Sp (isL b) n s q ∧ s < q ∧ e = q ∧ ((8 < q - s ∧ K = 28) ∨ (q - s ≤ 8 ∧ K ≤ 27 ∧ V = e256 (ltr b s (q - s)) 0 ∧ ∀ k, k < 27 → (ltr b s (q - s) = kwl k ↔ K = k)))) ∨
   (s < n ∧ ¬ isL b s ∧ isD b s ∧ ∃ q, Sp (isD b) n s q ∧ s < q ∧ ((4 < q - s ∧ K = 31 ∧ e = n + 1) ∨ (q - s ≤ 4 ∧ K = 29 ∧ e = q ∧ V = lN (dgv b s (q - s) 0)))) ∨
   (s < n ∧ ¬ isL b s ∧ ¬ isD b s ∧ ((isS b s ∧ K = 30 ∧ e = s + 1 ∧ V = (b s).toInt64) ∨ (¬ isS b s ∧ K = 31 ∧ e = n + 1))))
theorem Tok_e {b : Nat → Int32} {n p K s e : Nat} {V : Int64} (h : Tok b n p K V s e) (hp : p ≤ n) : K ≤ 32 ∧ s ≤ n ∧ p < e ∧ e ≤ n + 1 ∧ (K < 31 ↔ e ≤ n) := by
  obtain ⟨h1, h2⟩ := h
  have s1 := h1.1
  have s2 := Sp_n h1 hp
  rcases h2 with ⟨a, rfl, rfl⟩ | ⟨a, b1, q, c, d, rfl, f⟩ | ⟨a, b1, b2, q, c, d, f⟩ | ⟨a, b1, b2, f⟩
  · omega
  · have := Sp_n c (by omega)
    rcases f with ⟨f1, rfl⟩ | ⟨f1, f2, -⟩ <;> omega
  · have := Sp_n c (by omega)
    rcases f with ⟨f1, rfl, rfl⟩ | ⟨f1, rfl, rfl, -⟩ <;> omega
  · rcases f with ⟨f1, rfl, rfl, -⟩ | ⟨f1, rfl, rfl⟩ <;> omega
end C98j
