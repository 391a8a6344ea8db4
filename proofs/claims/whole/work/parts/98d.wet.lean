/-! 98d: wet -/
section C98d
variable {B : Int} {μ ν : sM}
def bN (n : Nat) : Nat → Nat
  | 0 => 1
  | i + 1 => bN n i * (n - i) / (i + 1)
theorem bN_pas : ∀ d, d < 12 → ∀ i, i < 12 → bN (d + 1) (i + 1) = bN d (i + 1) + bN d i := by decide +kernel
theorem bN_b : ∀ d, d < 13 → ∀ i, i < 14 → bN d i ≤ 924 := by decide +kernel
theorem bN_z : ∀ d, d < 13 → ∀ i, i < 14 → d < i → bN d i = 0 := by decide +kernel
/-- in how many ways it rains in just w of n HOURS -/
def wT (o n w : Nat) : Nat := bN n w * (o ^ w * (16 - o) ^ (n - w))
theorem wT_0 (o d : Nat) : wT o (d + 1) 0 = wT o d 0 * (16 - o) := by
  unfold wT
  rw [show bN (d + 1) 0 = 1 from rfl, show bN d 0 = 1 from rfl, Nat.sub_zero, Nat.sub_zero, Nat.pow_zero, Nat.one_mul, Nat.one_mul, Nat.one_mul, Nat.one_mul, Nat.pow_succ]
theorem wT_s {o d j : Nat} (hd : d < 12) (hj : j < 12) : wT o (d + 1) (j + 1) = wT o d (j + 1) * (16 - o) + wT o d j * o := by
  unfold wT
  rw [bN_pas d hd j hj, show d + 1 - (j + 1) = d - j by omega]
  by_cases c : j + 1 ≤ d
  · obtain ⟨e, he⟩ : ∃ e, d - j = e + 1 := ⟨d - j - 1, by omega⟩
    rw [he, show d - (j + 1) = e by omega, Nat.pow_succ, Nat.pow_succ]
    generalize o ^ j = x
    generalize (16 - o) ^ e = y
    generalize bN d (j + 1) = u
    generalize bN d j = v
    generalize 16 - o = z
    rw [Nat.add_mul]
    congr 1
    · simp only [Nat.mul_assoc]
    · simp only [Nat.mul_assoc, Nat.mul_comm, Nat.mul_left_comm]
  · rw [bN_z d (by omega) (j + 1) (by omega) (by omega), Nat.zero_add, Nat.zero_mul, Nat.zero_mul, Nat.zero_add, show d - j = 0 by omega, Nat.pow_zero, Nat.mul_one, Nat.mul_one, Nat.pow_succ, Nat.mul_assoc]
theorem wT_i (o j : Nat) : wT o 0 j = if j = 0 then 1 else 0 := by
  unfold wT
  by_cases c : j = 0
  · subst c
    rfl
  · rw [if_neg c]
    obtain ⟨e, rfl⟩ : ∃ e, j = e + 1 := ⟨j - 1, by omega⟩
    have z : ∀ e, bN 0 (e + 1) = 0 := by
      intro e
      show bN 0 e * (0 - e) / (e + 1) = 0
      rw [Nat.zero_sub, Nat.mul_zero, Nat.zero_div]
    rw [z, Nat.zero_mul]
theorem wT_b {o n w : Nat} (ho : o ≤ 16) (hn : n ≤ 12) (hw : w ≤ 12) : wT o n w ≤ 924 * 16 ^ 12 := by
  unfold wT
  by_cases c : w ≤ n
  · have a := bN_b n (by omega) w (by omega)
    have b1 : o ^ w ≤ 16 ^ w := Nat.pow_le_pow_left ho w
    have b2 : (16 - o) ^ (n - w) ≤ 16 ^ (n - w) := Nat.pow_le_pow_left (by omega) _
    have b3 : o ^ w * (16 - o) ^ (n - w) ≤ 16 ^ w * 16 ^ (n - w) := Nat.mul_le_mul b1 b2
    rw [← Nat.pow_add, show w + (n - w) = n by omega] at b3
    have b4 : 16 ^ n ≤ 16 ^ 12 := Nat.pow_le_pow_right (by omega) hn
    exact Nat.mul_le_mul a (Nat.le_trans b3 b4)
  · rw [bN_z n (by omega) w (by omega) (by omega), Nat.zero_mul]
    exact Nat.zero_le _
def sT2 (o n : Nat) : Nat → Nat → Nat
  | _, 0 => 0
  | i, k + 1 => wT o n i + sT2 o n (i + 1) k
theorem sT2_b {o n : Nat} (ho : o ≤ 16) (hn : n ≤ 12) : ∀ (k i : Nat), i + k ≤ 13 → sT2 o n i k ≤ k * (924 * 16 ^ 12)
  | 0, _, _ => Nat.zero_le _
  | k + 1, i, h => by
    have a := wT_b (w := i) ho hn (by omega)
    have b := sT2_b ho hn k (i + 1) (by omega)
    unfold sT2
    rw [Nat.succ_mul]
    omega
theorem sT2_z {o n : Nat} (hn : n ≤ 12) : ∀ (k i : Nat), n < i → i + k ≤ 13 → sT2 o n i k = 0
  | 0, _, _, _ => rfl
  | k + 1, i, h, h' => by
    unfold sT2
    rw [sT2_z hn k (i + 1) (by omega) (by omega)]
    unfold wT
    rw [bN_z n (by omega) i (by omega) h, Nat.zero_mul]
theorem sT2_a {o n : Nat} (hn : n ≤ 12) : ∀ (k i e : Nat), i + k = n + 1 → i + k + e ≤ 13 → sT2 o n i (k + e) = sT2 o n i k
  | 0, i, e, h, h' => by rw [Nat.zero_add]; exact sT2_z hn e i (by omega) (by omega)
  | k + 1, i, e, h, h' => by
    rw [show k + 1 + e = (k + e) + 1 by omega]
    unfold sT2
    rw [sT2_a hn k (i + 1) e (by omega) (by omega)]
/-! the class -/
theorem lN_big {n : Nat} (h : n < 2 ^ 63) : (lN n).toInt = (n : Int) := lg_ofNat_toInt (by omega)
theorem lN_div {a b : Nat} (ha : a < 2 ^ 31) (h0 : 0 < b) (hb : b < 2 ^ 31) : lN a / lN b = lN (a / b) := by
  apply Int64.toInt_inj.mp
  have q : a / b ≤ a := Nat.div_le_self a b
  have c : Int.tdiv (a : Int) (b : Int) = ((a / b : Nat) : Int) := by
    rw [Int.tdiv_eq_ediv_of_nonneg (by omega)]
    rfl
  rw [Int64.toInt_div, lN_toInt ha, lN_toInt hb, lN_toInt (by omega), c]
  clear c
  generalize a / b = w at q ⊢
  exact Int.bmod_eq_of_le (by omega) (by omega)
theorem ways5 {n w : Nat} (hn : n ≤ 12) (hw : w ≤ n) : ∀ (k i fu : Nat), i + k = w → k < fu → X11_waysToRain_L5 fu (nI n) (nI w) (lN (bN n i)) (nI i) μ = X11_waysToRain_L34 fuN (nI n) (nI w) (lN (bN n w)) 0 μ
  | 0, i, fu + 1, h, _ => by
    rw [Nat.add_zero] at h
    subst h
    unfold X11_waysToRain_L5
    rw [if_pos (nI_le (Nat.le_refl i) (by omega))]
  | k + 1, i, fu + 1, h, hf => by
    have b := bN_b n (by omega) i (by omega)
    have b2 : bN n i * (n - i) ≤ 924 * 12 := Nat.mul_le_mul b (by omega)
    rw [X11_waysToRain_L5]
    rw [if_neg (nI_ge (by omega) (by omega)), nI_1, nI_l (by omega), if_neg (fun q => by
      have z := congrArg Int64.toInt q
      rw [lN_toInt (by omega)] at z
      rw [show (0 : Int64).toInt = 0 from rfl] at z
      omega), pk_sub (by omega), nI_l (by omega), lN_mul, lN_div (by omega) (by omega) (by omega)]
    exact ways5 hn hw k (i + 1) fu (by omega) (by omega)
def pN (o w : Nat) : Nat → Nat → Nat
  | _, 0 => 1
  | i, k + 1 => (if w ≤ i then 16 - o else o) * pN o w (i + 1) k
theorem pN_hi {o w : Nat} : ∀ (k i : Nat), w ≤ i → pN o w i k = (16 - o) ^ k
  | 0, _, _ => rfl
  | k + 1, i, h => by
    unfold pN
    rw [if_pos h, pN_hi k (i + 1) (by omega), Nat.pow_succ, Nat.mul_comm]
theorem pN_lo {o w : Nat} : ∀ (k i : Nat), i ≤ w → w ≤ i + k → pN o w i k = o ^ (w - i) * (16 - o) ^ (i + k - w)
  | 0, i, h, h' => by
    rw [show w - i = 0 by omega, show i + 0 - w = 0 by omega]
    rfl
  | k + 1, i, h, h' => by
    by_cases c : w ≤ i
    · rw [pN_hi (k + 1) i c, show w - i = 0 by omega, show i + (k + 1) - w = k + 1 by omega, Nat.pow_zero, Nat.one_mul]
    · unfold pN
      rw [if_neg c, pN_lo k (i + 1) (by omega) (by omega), show w - i = (w - (i + 1)) + 1 by omega, Nat.pow_succ, show i + 1 + k - w = i + (k + 1) - w by omega]
      simp only [Nat.mul_assoc, Nat.mul_comm, Nat.mul_left_comm]
theorem ways34 {n w o : Nat} (hn : n ≤ 12) (hw : w ≤ n) (ho : rI μ 5 0 3 = nI o) (o16 : o ≤ 16) : ∀ (k i fu v : Nat), i + k = n → k < fu → X11_waysToRain_L34 fu (nI n) (nI w) (lN v) (nI i) μ = some (lN (v * pN o w i k), μ)
  | 0, i, fu + 1, v, h, _ => by
    unfold X11_waysToRain_L34
    rw [if_pos (nI_le (by omega) (by omega)), show pN o w i 0 = 1 from rfl, Nat.mul_one]
  | k + 1, i, fu + 1, v, h, hf => by
    rw [X11_waysToRain_L34]
    rw [if_neg (nI_ge (by omega) (by omega)), ho, show (16 : Int32) = nI 16 from rfl, pk_sub o16, nI_l (by omega), nI_l (by omega)]
    unfold X11_waysToRain_J69
    by_cases c : w ≤ i
    · rw [if_pos (nI_le c (by omega)), nI_1, lN_mul, ways34 hn hw ho o16 k (i + 1) fu _ (by omega) (by omega)]
      rw [show pN o w i (k + 1) = (if w ≤ i then 16 - o else o) * pN o w (i + 1) k from rfl, if_pos c, Nat.mul_assoc]
    · rw [if_neg (nI_ge (by omega) (by omega)), nI_1, lN_mul, ways34 hn hw ho o16 k (i + 1) fu _ (by omega) (by omega)]
      rw [show pN o w i (k + 1) = (if w ≤ i then 16 - o else o) * pN o w (i + 1) k from rfl, if_neg c, Nat.mul_assoc]
theorem ways_e {n w o : Nat} (hn : n ≤ 12) (hw : w ≤ n) (ho : rI μ 5 0 3 = nI o) (o16 : o ≤ 16) : X11_waysToRain (nI n) (nI w) μ = some (lN (wT o n w), μ) := by
  unfold X11_waysToRain
  have h := ways5 (μ := μ) hn hw w 0 fuN (by omega) (fuN_6 (by omega))
  rw [nI_0, show lN (bN n 0) = 1 from rfl] at h
  have h2 := ways34 hn hw ho o16 n 0 fuN (bN n w) (by omega) (fuN_6 (by omega))
  rw [nI_0] at h2
  rw [h, h2, pN_lo n 0 (by omega) (by omega), Nat.sub_zero, Nat.zero_add]
  rfl
theorem wet57 {n o : Nat} {al : Int64} (hn : n ≤ 12) (ho : rI μ 5 0 3 = nI o) (o16 : o ≤ 16) : ∀ (k i fu s : Nat), (i + k = n + 1 ∨ (k = 0 ∧ n < i ∧ i ≤ 12)) → k < fu → X11_wet_L57 fu (nI n) (lN s) al (nI i) μ = bV (X11_tellFraction (lN (s + sT2 o n i k)) al μ) fun μ2 => bI (X11_grant μ2) fun x3 μ4 => if x3 = 0 ∨ x3 = 1 then some (x3, μ4) else none
  | 0, i, fu + 1, s, h, _ => by
    unfold X11_wet_L57
    rw [if_pos (nI_lt (by omega) (by omega)), show sT2 o n i 0 = 0 from rfl, Nat.add_zero]
  | k + 1, i, fu + 1, s, h, hf => by
    rw [X11_wet_L57]
    rw [if_neg (nI_nlt (by omega) (by omega)), ways_e hn (by omega) ho o16, bL_s, nI_1, lN_add, wet57 hn ho o16 k (i + 1) fu _ (by omega) (by omega)]
    rw [show sT2 o n i (k + 1) = wT o n i + sT2 o n (i + 1) k from rfl, Nat.add_assoc]
theorem wet34 {n b : Nat} {s : Int64} (hn : n ≤ 12) : ∀ (k i fu a : Nat), i + k = n → k < fu → X11_wet_L34 fu (nI n) (nI b) s (lN a) (nI i) μ = X11_wet_L57 fuN (nI n) s (lN (a * 16 ^ k)) (nI b) μ
  | 0, i, fu + 1, a, h, _ => by
    unfold X11_wet_L34
    rw [if_pos (nI_le (by omega) (by omega)), Nat.pow_zero, Nat.mul_one]
  | k + 1, i, fu + 1, a, h, hf => by
    rw [X11_wet_L34]
    rw [if_neg (nI_ge (by omega) (by omega)), nI_1, show (16 : Int64) = lN 16 from rfl, lN_mul, wet34 hn k (i + 1) fu _ (by omega) (by omega), Nat.pow_succ, Nat.mul_comm (16 ^ k) 16, Nat.mul_assoc]
/-! the reference -/
theorem sD_sD (μ : sM) (k i : Nat) (F G : Nat → Int64) : sD (sD μ k i F) k i G = sD μ k i G := by
  refine sM_ext (fun _ _ _ => rfl) (fun a b c => ?_) (fun _ _ _ => rfl)
  rw [rL_sD, rL_sD, rL_sD]
  by_cases q : a = k ∧ b = i
  · rw [if_pos q, if_pos q]
  · rw [if_neg q, if_neg q, if_neg q]
theorem wet45 {a b : Int32} {v : Int64} : ∀ (k i fu : Nat) (ν : sM), i + k = 13 → k < fu → X12_wet_L45 fu a b v (nI i) ν = X12_wet_L78 fuN a b v 0 (sD ν 70 0 (fun j => if i ≤ j ∧ j < 13 then (if j = 0 then 1 else 0) else rL ν 70 0 j))
  | 0, i, fu + 1, ν, h, _ => by
    unfold X12_wet_L45
    rw [if_pos (show (12 : Int32) < nI i from nI_lt (a := 12) (by omega) (by omega)), sD_id]
    intro j
    rw [if_neg (by omega)]
  | k + 1, i, fu + 1, ν, h, hf => by
    have ih := fun ν => wet45 (a := a) (b := b) (v := v) k (i + 1) fu ν (by omega) (by omega)
    have eF : ∀ x : Int64, x = (if i = 0 then 1 else 0) → sD (wL ν 70 0 i x) 70 0 (fun j => if i + 1 ≤ j ∧ j < 13 then (if j = 0 then 1 else 0) else rL (wL ν 70 0 i x) 70 0 j) = sD ν 70 0 (fun j => if i ≤ j ∧ j < 13 then (if j = 0 then 1 else 0) else rL ν 70 0 j) := by
      intro x hx
      rw [sD_wL]
      apply sD_c
      intro j
      by_cases e : j = i
      · subst e
        rw [if_neg (by omega), if_pos ⟨Nat.le_refl j, by omega⟩, rL_s, hx]
      · rw [rL_j e]
        by_cases q : i + 1 ≤ j ∧ j < 13
        · rw [if_pos q, if_pos (show i ≤ j ∧ j < 13 from ⟨by omega, q.2⟩)]
        · rw [if_neg q, if_neg (by omega)]
    rw [X12_wet_L45]
    unfold X12_wet_J68
    rw [if_neg (show ¬ (12 : Int32) < nI i from nI_nlt (a := 12) (b := i) (by omega) (by omega)), if_pos (inb_nI (by omega) (by omega)), ix_nI (by omega), nI_1]
    by_cases c : i = 0
    · rw [if_pos (by rw [c]; rfl), ih, eF 1 (by rw [if_pos c])]
    · rw [if_neg (nI_ne0 (by omega) (by omega)), if_pos (inb_nI (by omega) (by omega)), ih, eF 0 (by rw [if_neg c])]
abbrev dpF (o : Nat) (c : Nat → Int64) (i j : Nat) : Int64 := if j ≤ i then (if j = 0 then c 0 * lN (16 - o) else c j * lN (16 - o) + c (j - 1) * lN o) else c j
theorem wet88 {k78 : Int32 → Int32 → Int64 → Int32 → sM → Option (Int32 × sM)} {v1 v2 v5 : Int32} {v3 : Int64} {o : Nat} (o16 : o ≤ 16) : ∀ (i fu : Nat) (ν : sM), i ≤ 12 → i < fu → rI ν 61 0 5 = nI o → X12_wet_L88 k78 fu v1 v2 v3 v5 (nI i) ν = k78 v1 v2 (v3 * 16) (v5 + 1) (sD ν 70 0 (dpF o (rL ν 70 0) i))
  | 0, fu + 1, ν, h, _, ho => by
    unfold X12_wet_L88
    rw [if_pos (by rw [nI_0]; exact Int32.le_refl 0), ho, show (16 : Int32) = nI 16 from rfl, pk_sub o16, nI_l (by omega)]
    congr 1
    refine sM_ext (fun _ _ _ => rfl) (fun a b c => ?_) (fun _ _ _ => rfl)
    rw [rL_wL, rL_sD]
    by_cases q : a = 70 ∧ b = 0
    · rw [if_pos q]
      by_cases e : c = 0
      · rw [if_pos ⟨q.1, e, q.2⟩, e]
        unfold dpF
        rw [if_pos (Nat.le_refl 0), if_pos rfl]
      · rw [if_neg (fun z => e z.2.1), q.1, q.2]
        unfold dpF
        rw [if_neg (by omega)]
    · rw [if_neg q, if_neg (fun z => q ⟨z.1, z.2.2⟩)]
  | i + 1, fu + 1, ν, h, hf, ho => by
    rw [X12_wet_L88]
    rw [if_neg (nI_nle (by omega) (by omega)), if_pos (inb_nI (by omega) (by omega)), nI_pred, if_pos (inb_nI (by omega) (by omega)), if_pos (inb_nI (by omega) (by omega)), ho, show (16 : Int32) = nI 16 from rfl, pk_sub o16, nI_l (by omega), nI_l (by omega), pk_m1, ix_nI (by omega), ix_nI (by omega), wet88 o16 i fu _ (by omega) (by omega) (by rw [rI_wL]; exact ho), sD_wL]
    congr 1
    apply sD_c
    intro j
    unfold dpF
    by_cases c : j ≤ i
    · rw [if_pos c, if_pos (show j ≤ i + 1 by omega)]
      rw [rL_j (by omega), rL_j (by omega), rL_j (by omega)]
    · rw [if_neg c]
      by_cases e : j = i + 1
      · subst e
        rw [rL_s, if_pos (Nat.le_refl _), if_neg (by omega), show i + 1 - 1 = i by omega]
      · rw [rL_j e, if_neg (by omega)]
theorem wet78 {n o : Nat} {b : Int32} (hn : n ≤ 12) (o16 : o ≤ 16) : ∀ (k d fu a : Nat) (ν : sM), d + k = n → k < fu → rI ν 61 0 5 = nI o → (∀ j, j ≤ 12 → rL ν 70 0 j = lN (wT o d j)) → ∃ F : Nat → Int64, X12_wet_L78 fu (nI n) b (lN a) (nI d) ν = X12_wet_L179 fuN (lN (a * 16 ^ k)) 0 b (sD ν 70 0 F) ∧ ∀ j, j ≤ 12 → F j = lN (wT o n j)
  | 0, d, fu + 1, a, ν, h, _, ho, hc => by
    refine ⟨rL ν 70 0, ?_, fun j hj => by rw [hc j hj]; rw [show d = n by omega]⟩
    unfold X12_wet_L78
    rw [if_pos (nI_le (by omega) (by omega)), Nat.pow_zero, Nat.mul_one, sD_id _ _ _ _ (fun _ => rfl)]
  | k + 1, d, fu + 1, a, ν, h, hf, ho, hc => by
    have h88 := wet88 (k78 := X12_wet_L78 fu) (v1 := nI n) (v2 := b) (v5 := nI d) (v3 := lN a) o16 12 fuN ν (by omega) (fuN_6 (by omega)) ho
    obtain ⟨F, e, hF⟩ := wet78 (b := b) hn o16 k (d + 1) fu (a * 16) (sD ν 70 0 (dpF o (rL ν 70 0) 12)) (by omega) (by omega) (by rw [rI_sD]; exact ho) (fun j hj => by
      rw [sD_s]
      unfold dpF
      rw [if_pos hj]
      by_cases c : j = 0
      · rw [if_pos c, hc 0 (by omega), lN_mul, c, wT_0]
      · obtain ⟨i, rfl⟩ : ∃ i, j = i + 1 := ⟨j - 1, by omega⟩
        rw [if_neg c, hc (i + 1) hj, show i + 1 - 1 = i by omega, hc i (by omega), lN_mul, lN_mul, lN_add, wT_s (by omega) (by omega)])
    refine ⟨F, ?_, hF⟩
    rw [X12_wet_L78]
    rw [if_neg (nI_ge (by omega) (by omega)), show (12 : Int32) = nI 12 from rfl, h88, nI_1, show (16 : Int64) = lN 16 from rfl, lN_mul, e, sD_sD, Nat.pow_succ, Nat.mul_comm (16 ^ k) 16, Nat.mul_assoc]
theorem wet179 {n o : Nat} {al : Int64} : ∀ (k i fu s : Nat), i + k = 13 → k < fu → (∀ j, j ≤ 12 → rL ν 70 0 j = lN (wT o n j)) → X12_wet_L179 fu al (lN s) (nI i) ν = bI (X12_fraction (lN (s + sT2 o n i k)) al ν) fun x1 μ2 => if x1 = 0 ∨ x1 = 1 then some (x1, μ2) else none
  | 0, i, fu + 1, s, h, _, hc => by
    unfold X12_wet_L179
    rw [if_pos (show (12 : Int32) < nI i from nI_lt (a := 12) (by omega) (by omega)), show sT2 o n i 0 = 0 from rfl, Nat.add_zero]
  | k + 1, i, fu + 1, s, h, hf, hc => by
    rw [X12_wet_L179]
    rw [if_neg (show ¬ (12 : Int32) < nI i from nI_nlt (a := 12) (by omega) (by omega)), if_pos (inb_nI (by omega) (by omega)), ix_nI (by omega), hc i (by omega), lN_add, nI_1, wet179 k (i + 1) fu _ (by omega) (by omega) hc]
    rw [show sT2 o n i (k + 1) = wT o n i + sT2 o n (i + 1) k from rfl, Nat.add_assoc]
theorem m_wet (a b : Int32) : BoI B (X11_wet a b) (X12_wet a b) := fun μ ν h => by
  obtain ⟨-, hR, ok, h9, hx⟩ := Rel_i h
  unfold X11_wet X12_wet
  rw [isIn_i, bI_s, isIn_i, show (0 : Int64).toInt = 0 from rfl, show (12 : Int64).toInt = 12 from rfl]
  simp only [lt_i, le_i, t0, show (12 : Int32).toInt = 12 from rfl]
  by_cases c1 : 0 ≤ a.toInt ∧ a.toInt ≤ 12
  · rw [if_neg (show ¬ a.toInt < 0 by omega), if_neg (show ¬ 12 < a.toInt by omega), if_pos c1, if_neg n10, bI_s]
    by_cases c2 : 0 ≤ b.toInt ∧ b.toInt ≤ 12
    · rw [if_neg (show ¬ b.toInt < 0 by omega), if_pos c2.2, if_pos c2, if_neg n10]
      obtain ⟨n, rfl, hn, hn'⟩ := seg_nI c1.1 (n := 13) (by omega) (by omega)
      obtain ⟨k, rfl, hk, hk'⟩ := seg_nI c2.1 (n := 13) (by omega) (by omega)
      obtain ⟨o, ho, o16, ho'⟩ := rg_nI (b := 16) ok.2.1.2.2.1
      have x5 : rI μ 5 0 3 = nI o := hR.1.2.2.2.2.2.1.trans ho
      have m5 : rI (m0 ν) 61 0 5 = nI o := by rw [m0_k (by decide)]; exact ho
      have w45 := wet45 (a := nI n) (b := nI k) (v := 1) 13 0 fuN (m0 ν) (by omega) (fuN_6 (by omega))
      rw [nI_0] at w45
      obtain ⟨F, e78, hF⟩ := wet78 (n := n) (o := o) (b := nI k) (by omega) o16 n 0 fuN 1 (sD (m0 ν) 70 0 (fun j => if 0 ≤ j ∧ j < 13 then (if j = 0 then 1 else 0) else rL (m0 ν) 70 0 j)) (by omega) (fuN_6 (by omega)) (by rw [rI_sD]; exact m5) (fun j hj => by
        rw [sD_s, if_pos ⟨by omega, by omega⟩, wT_i]
        by_cases c : j = 0
        · rw [if_pos c, if_pos c]; rfl
        · rw [if_neg c, if_neg c]; rfl)
      rw [nI_0, show lN 1 = 1 from rfl, sD_sD, Nat.one_mul] at e78
      have e179 := wet179 (ν := sD (m0 ν) 70 0 F) (n := n) (o := o) (al := lN (16 ^ n)) (13 - k) k fuN 0 (by omega) (fuN_6 (by omega)) (fun j hj => by rw [sD_s]; exact hF j hj)
      rw [show lN 0 = 0 from rfl, Nat.zero_add] at e179
      rw [w45, e78, e179]
      have e34 := wet34 (μ := μ) (n := n) (b := k) (s := 0) (by omega) n 0 fuN 1 (by omega) (fuN_6 (by omega))
      rw [nI_0, show lN 1 = 1 from rfl, Nat.one_mul] at e34
      have e57 := wet57 (μ := μ) (n := n) (o := o) (al := lN (16 ^ n)) (by omega) x5 o16 (n + 1 - k) k fuN 0 (by omega) (fuN_6 (by omega))
      rw [show lN 0 = 0 from rfl, Nat.zero_add] at e57
      rw [e34, e57]
      have es : sT2 o n k (13 - k) = sT2 o n k (n + 1 - k) := by
        by_cases c : k ≤ n
        · have := sT2_a (o := o) (n := n) (by omega) (n + 1 - k) k (12 - n) (by omega) (by omega)
          rw [← this]
          congr 1
          omega
        · rw [sT2_z (by omega) (13 - k) k (by omega) (by omega), show n + 1 - k = 0 by omega]
          rfl
      rw [es]
      have sb := sT2_b (o := o) (n := n) o16 (by omega) (n + 1 - k) k (by omega)
      have sb2 : (n + 1 - k) * (924 * 16 ^ 12) ≤ 13 * (924 * 16 ^ 12) := Nat.mul_le_mul_right _ (by omega)
      have p16 : 16 ^ n ≤ 16 ^ 12 := Nat.pow_le_pow_right (by omega) (by omega)
      have p0 : 0 < 16 ^ n := Nat.pow_pos (by omega)
      obtain ⟨g, e1, e2⟩ := frac2 (a := lN (sT2 o n k (n + 1 - k))) (b := lN (16 ^ n)) (by rw [lN_big (by omega)]; omega) (by rw [lN_big (by omega)]; omega) μ (sD (m0 ν) 70 0 F)
      have h' : Rel B μ (sD ν 70 0 F) := Rel_q h kq_r (kq_sD (fun j => rfl) kq_r) h.1 (Int.le_refl B)
      refine ⟨1, _, _, ?_, ?_, Rel_f h' (lN (sT2 o n k (n + 1 - k)) / g) (lN (16 ^ n) / g)⟩
      · rw [e1, bV_s]; rfl
      · rw [e2, bI_s]; rfl
    · refine ⟨0, _, _, ?_, ?_, re_b h 5⟩
      · by_cases c3 : b.toInt < 0
        · rw [if_pos c3]; rfl
        · rw [if_neg c3, if_neg (by omega)]; rfl
      · rw [if_neg c2]; rfl
  · refine ⟨0, _, _, ?_, ?_, re_b h 5⟩
    · by_cases c3 : a.toInt < 0
      · rw [if_pos c3]; rfl
      · rw [if_neg c3, if_pos (by omega)]; rfl
    · rw [if_neg c1]; rfl
/-! lived -/
theorem m_lived (a : Int32) : BoI B (X11_lived a) (X12_lived a) := fun μ ν h => by
  obtain ⟨v1, v2, v3⟩ := h.2.2.2.2.2.2.2
  unfold X11_lived X12_lived
  rw [isIn_i, bI_s, show (0 : Int64).toInt = 0 from rfl, show (4 : Int64).toInt = 4 from rfl]
  simp only [lt_i, le_i, t0, show (4 : Int32).toInt = 4 from rfl]
  by_cases c1 : 0 ≤ a.toInt ∧ a.toInt ≤ 4
  · rw [if_neg (show ¬ a.toInt < 0 by omega), if_pos c1.2, if_pos c1, if_neg n10]
    have e40 : rI (m0 ν) 13 0 40 = rI ν 13 0 40 := by rw [rI_j (by decide), rI_j (by decide)]
    rw [v1, e40]
    rcases v2 with c2 | c2
    · refine ⟨-1, _, _, ?_, ?_, re_b h 8⟩
      · rw [if_pos c2]; rfl
      · rw [if_pos c2]; rfl
    · obtain ⟨w2, w3, w4, w5, w6⟩ := v3 c2
      have n40 : ¬ rI ν 13 0 40 = 0 := by rw [c2]; exact n10
      obtain ⟨p, rfl, hp, hp'⟩ := seg_nI c1.1 (n := 5) (by omega) (by omega)
      refine ⟨rI ν 71 0 p, _, _, ?_, ?_, gi_b h⟩
      · rw [if_neg n40]
        unfold X1_figure
        have hc : p = 0 ∨ p = 1 ∨ p = 2 ∨ p = 3 ∨ p = 4 := by omega
        rcases hc with rfl | rfl | rfl | rfl | rfl
        · rw [if_pos (by decide +kernel), w2]; rfl
        · rw [if_neg (by decide +kernel), if_pos (by decide +kernel), w3]; rfl
        · rw [if_neg (by decide +kernel), if_neg (by decide +kernel), if_pos (by decide +kernel), w4]; rfl
        · rw [if_neg (by decide +kernel), if_neg (by decide +kernel), if_neg (by decide +kernel), if_pos (by decide +kernel), w5]; rfl
        · rw [if_neg (by decide +kernel), if_neg (by decide +kernel), if_neg (by decide +kernel), if_neg (by decide +kernel), w6]; rfl
      · rw [if_neg n40, if_pos (inb_nI (by omega) (by omega)), ix_nI (by omega), m0_k (by decide)]
  · refine ⟨-1, _, _, ?_, ?_, re_b h 5⟩
    · by_cases c3 : a.toInt < 0
      · rw [if_pos c3]; rfl
      · rw [if_neg c3, if_neg (by omega)]; rfl
    · rw [if_neg c1]; rfl
end C98d
