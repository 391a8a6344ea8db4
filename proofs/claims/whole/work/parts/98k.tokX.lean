/-! 98k: the class's TOKENS -/
section C98k
variable {μ : sM} {b : Nat → Int32} {n i : Nat}
theorem wL_wL (μ : sM) (k i j : Nat) (v w : Int64) : wL (wL μ k i j v) k i j w = wL μ k i j w := by
  refine sM_ext (fun _ _ _ => rfl) (fun a b c => ?_) (fun _ _ _ => rfl)
  rw [rL_wL, rL_wL, rL_wL]
  by_cases q : a = k ∧ c = j ∧ b = i
  · rw [if_pos q, if_pos q]
  · rw [if_neg q, if_neg q, if_neg q]
theorem wL_id (μ : sM) (k i j : Nat) : wL μ k i j (rL μ k i j) = μ := by
  refine sM_ext (fun _ _ _ => rfl) (fun a b c => ?_) (fun _ _ _ => rfl)
  rw [rL_wL]
  by_cases q : a = k ∧ c = j ∧ b = i
  · rw [if_pos q, q.1, q.2.1, q.2.2]
  · rw [if_neg q]
abbrev T3 (μ : sM) (i : Nat) (s : Int32) (V : Int64) (K : Int32) : sM := wI (wI (wL (wI μ 37 0 i s) 38 0 i V) 36 0 i K) 7 0 8 (nI (i + 1))
theorem T3_w (μ : sM) (i : Nat) (s : Int32) (V V0 : Int64) (K : Int32) : wI (wL (wI (wL (wI μ 37 0 i s) 38 0 i V0) 36 0 i K) 38 0 i V) 7 0 8 (nI (i + 1)) = T3 μ i s V K := by
  show wI (wI (wL (wL (wI μ 37 0 i s) 38 0 i V0) 38 0 i V) 36 0 i K) 7 0 8 (nI (i + 1)) = _
  rw [wL_wL]
theorem T3_n (μ : sM) (i : Nat) (s : Int32) (V V0 : Int64) (K : Int32) : wI (wI (wL (wL (wI μ 37 0 i s) 38 0 i V0) 38 0 i V) 36 0 i K) 7 0 8 (nI (i + 1)) = T3 μ i s V K := by
  rw [wL_wL]
theorem bk1_ {j : Nat} (h : isB b j) : X6_isBlank (b j) μ = some (1, μ) := by
  unfold X6_isBlank
  rcases h with z | z
  · rw [if_pos z]
  · by_cases c : b j = 10
    · rw [if_pos c]
    · rw [if_neg c, if_pos z]
theorem bk0_ {j : Nat} (h : ¬ isB b j) : X6_isBlank (b j) μ = some (0, μ) := by
  unfold X6_isBlank
  rw [if_neg (fun z => h (Or.inl z)), if_neg (fun z => h (Or.inr z))]
theorem lt1_ {j : Nat} (h : isL b j) : X6_isLetter (b j) μ = some (1, μ) := by
  unfold X6_isLetter
  have := h.1
  have := h.2
  simp only [lt_i, show (97 : Int32).toInt = 97 from rfl, show (122 : Int32).toInt = 122 from rfl]
  rw [if_neg (by omega), if_neg (by omega)]
theorem lt0_ {j : Nat} (h : ¬ isL b j) : X6_isLetter (b j) μ = some (0, μ) := by
  unfold isL at h
  unfold X6_isLetter
  simp only [lt_i, show (97 : Int32).toInt = 97 from rfl, show (122 : Int32).toInt = 122 from rfl]
  by_cases c : (b j).toInt < 97
  · rw [if_pos c]
  · rw [if_neg c, if_pos (by omega)]
theorem dg1_ {j : Nat} (h : isD b j) : X6_isDigit (b j) μ = some (1, μ) := by
  unfold X6_isDigit
  have := h.1
  have := h.2
  simp only [lt_i, show (48 : Int32).toInt = 48 from rfl, show (57 : Int32).toInt = 57 from rfl]
  rw [if_neg (by omega), if_neg (by omega)]
theorem dg0_ {j : Nat} (h : ¬ isD b j) : X6_isDigit (b j) μ = some (0, μ) := by
  unfold isD at h
  unfold X6_isDigit
  simp only [lt_i, show (48 : Int32).toInt = 48 from rfl, show (57 : Int32).toInt = 57 from rfl]
  by_cases c : (b j).toInt < 48
  · rw [if_pos c]
  · rw [if_neg c, if_pos (by omega)]
/-! a word's kind -/
theorem isLike_l {s m f : Nat} (hb : ∀ j, j < s + m → rI μ 35 0 j = b j) (hf : f + m ≤ 147) (hs : s + m ≤ 900) : ∀ (k i fu : Nat), i + k = m → k < fu → ∃ x, X6_isLike_L3 fu (nI s) (nI (s + m)) (nI f) (nI (s + i)) μ = some (x, μ) ∧ ((x = 1 ∧ ∀ j, i ≤ j → j < m → b (s + j) = kWb.getD (f + j) 0) ∨ (x = 0 ∧ ¬ ∀ j, i ≤ j → j < m → b (s + j) = kWb.getD (f + j) 0))
  | 0, i, fu + 1, h, _ => by
    refine ⟨1, ?_, Or.inl ⟨rfl, fun j a c => by omega⟩⟩
    unfold X6_isLike_L3
    rw [if_pos (nI_le (by omega) (by omega))]
  | k + 1, i, fu + 1, h, hf' => by
    rw [X6_isLike_L3]
    rw [if_neg (nI_ge (by omega) (by omega)), if_pos (inb_nI (by omega) (by omega)), nI_add, show f + (s + i) = s + (f + i) by omega, pk_sub (by omega), show s + (f + i) - s = f + i by omega, if_pos (inb_nI (by omega) (by omega)), ix_nI (by omega), ix_nI (by omega), hb (s + i) (by omega), nI_1]
    by_cases c : b (s + i) = kWb.getD (f + i) 0
    · obtain ⟨x, e, hx⟩ := isLike_l hb hf hs k (i + 1) fu (by omega) (by omega)
      refine ⟨x, ?_, ?_⟩
      · rw [if_pos c]
        exact e
      · rcases hx with ⟨x1, x2⟩ | ⟨x1, x2⟩
        · refine Or.inl ⟨x1, fun j a d => ?_⟩
          by_cases ej : j = i
          · rw [ej]; exact c
          · exact x2 j (by omega) d
        · exact Or.inr ⟨x1, fun H => x2 (fun j a d => H j (by omega) d)⟩
    · exact ⟨0, by rw [if_neg c], Or.inr ⟨rfl, fun H => c (H i (Nat.le_refl i) (by omega))⟩⟩
theorem kow_skip {s e : Int32} {k f : Nat} : ∀ (q i fu : Nat), (∀ j, i ≤ j → j < i + q → ¬ kWb.getD j 0 = 32) → i + q ≤ 146 → X6_kindOfWord_L19 (fu + q) s e (nI k) (nI f) (nI i) μ = X6_kindOfWord_L19 fu s e (nI k) (nI f) (nI (i + q)) μ
  | 0, i, fu, _, _ => rfl
  | q + 1, i, fu, h, hi => by
    rw [show fu + (q + 1) = (fu + q) + 1 by omega, X6_kindOfWord_L19]
    rw [if_neg (show ¬ (147 : Int32) ≤ nI i from nI_ge (b := 147) (by omega) (by omega)), if_pos (inb_nI (by omega) (by omega)), ix_nI (by omega), if_neg (h i (Nat.le_refl i) (by omega))]
    unfold X6_kindOfWord_J74
    rw [nI_1, kow_skip q (i + 1) fu (fun j a c => h j (by omega) (by omega)) (by omega), show i + 1 + q = i + (q + 1) by omega]
theorem kow_l {s m : Nat} (hb : ∀ j, j < s + m → rI μ 35 0 j = b j) (hs : s + m ≤ 900) (hL : ∀ j, s ≤ j → j < s + m → isL b j) : ∀ (r k fu : Nat), k + r = 27 → 148 ≤ fu + kwf k → (∀ k', k' < k → ¬ ltr b s m = kwl k') → ∃ K, K ≤ 27 ∧ X6_kindOfWord_L19 fu (nI s) (nI (s + m)) (nI k) (nI (kwf k)) (nI (kwf k)) μ = some (nI K, μ) ∧ ∀ k', k' < 27 → (ltr b s m = kwl k' ↔ K = k')
  | 0, k, fu, h, hf, hn => by
    have e : k = 27 := by omega
    subst e
    rw [kw_27] at hf
    obtain ⟨fu, rfl⟩ : ∃ f, fu = f + 1 := ⟨fu - 1, by omega⟩
    refine ⟨27, by omega, ?_, fun k' hk => ⟨fun z => absurd z (hn k' hk), fun z => by omega⟩⟩
    rw [kw_27, X6_kindOfWord_L19]
    rw [if_pos (show (147 : Int32) ≤ nI 147 from nI_le (a := 147) (Nat.le_refl _) (by omega))]
    rfl
  | r + 1, k, fu, h, hf, hn => by
    obtain ⟨t1, t2, t3, t4, t5, t6, t7⟩ := kw_t k (by omega)
    obtain ⟨fu, rfl⟩ : ∃ f, fu = (f + 1) + (kwl k).length := ⟨fu - 1 - (kwl k).length, by omega⟩
    have sk := kow_skip (μ := μ) (s := nI s) (e := nI (s + m)) (k := k) (f := kwf k) (kwl k).length (kwf k) (fu + 1) (fun j a c => by
      have z := t6 (j - kwf k) (by omega)
      rw [show kwf k + (j - kwf k) = j by omega] at z
      have mem : (kwl k).getD (j - kwf k) 0 < 27 := by
        have hlt : j - kwf k < (kwl k).length := by omega
        have z2 := t7 ((kwl k)[j - kwf k]) (List.getElem_mem hlt)
        rw [List.getD_eq_getElem?_getD, List.getElem?_eq_getElem hlt, Option.getD_some]
        omega
      rw [z]
      exact kw_n _ mem) (by omega)
    have next : (∀ k', k' < k + 1 → ¬ ltr b s m = kwl k') → ∃ K, K ≤ 27 ∧ X6_kindOfWord_J65 (X6_kindOfWord_L19 fu) (nI s) (nI (s + m)) (nI k) (nI (kwf k + (kwl k).length)) μ = some (nI K, μ) ∧ ∀ k', k' < 27 → (ltr b s m = kwl k' ↔ K = k') := by
      intro hn'
      obtain ⟨K, K27, e, hK⟩ := kow_l hb hs hL r (k + 1) fu (by omega) (by omega) hn'
      refine ⟨K, K27, ?_, hK⟩
      unfold X6_kindOfWord_J65 X6_kindOfWord_J74
      rw [nI_1, nI_1, ← t4]
      exact e
    have eq := ltr_eq b m s (kwl k)
    rw [sk, X6_kindOfWord_L19]
    rw [if_neg (show ¬ (147 : Int32) ≤ nI (kwf k + (kwl k).length) from nI_ge (b := 147) (by omega) (by omega)), if_pos (inb_nI (by omega) (by omega)), ix_nI (by omega), if_pos t5, pk_sub (by omega), pk_sub (by omega), show kwf k + (kwl k).length - kwf k = (kwl k).length by omega, show s + m - s = m by omega]
    by_cases c : (kwl k).length = m
    · obtain ⟨x, ex, hx⟩ := isLike_l hb (f := kwf k) (by omega) hs m 0 fuN (by omega) (fuN_6 (by omega))
      rw [Nat.add_zero] at ex
      have eq' := eq c hL t7
      rw [if_pos (by rw [c])]
      unfold X6_isLike
      rw [ex, bI_s]
      have ft : ∀ j, j < m → kWb.getD (kwf k + j) 0 = nI ((kwl k).getD j 0 + 96) := fun j hj => t6 j (by omega)
      rcases hx with ⟨rfl, hx⟩ | ⟨rfl, hx⟩
      · have hm : ltr b s m = kwl k := eq'.mp (fun j hj => (hx j (by omega) hj).trans (ft j hj))
        refine ⟨k, by omega, by rw [if_neg n10], fun k' hk' => ⟨fun z => ?_, fun z => ?_⟩⟩
        · exact kw_d k (by omega) k' hk' (hm.symm.trans z)
        · rw [← z]; exact hm
      · obtain ⟨K, K27, e, hK⟩ := next (fun k' hk' => by
          by_cases e : k' = k
          · rw [e]
            intro z
            exact hx (fun j _ hj => (eq'.mpr z j hj).trans (ft j hj).symm)
          · exact hn k' (by omega))
        exact ⟨K, K27, by rw [if_pos rfl]; exact e, hK⟩
    · obtain ⟨K, K27, e, hK⟩ := next (fun k' hk' => by
        by_cases e : k' = k
        · rw [e]
          intro z
          apply c
          rw [← z, ltr_len]
        · exact hn k' (by omega))
      refine ⟨K, K27, ?_, hK⟩
      rw [if_neg]
      · exact e
      · rw [nI_eq (by omega) (by omega)]
        exact c
/-! words, numbers, signs -/
theorem aw_l51 {q : Nat} (hq : q ≤ 900) (i9 : i ≤ 900) : ∀ (k p fu : Nat) (μ : sM), p + k = q → k < fu → (∀ j, j < q → rI μ 35 0 j = b j) → (∀ j, p ≤ j → j < q → isL b j) → rI μ 7 0 8 = nI i → X6_addWord_L51 fu (nI q) (nI p) μ = some (nI q, wL μ 38 0 i (e256 (ltr b p k) (rL μ 38 0 i)))
  | 0, p, fu + 1, μ, h, _, hb, hL, h8 => by
    unfold X6_addWord_L51
    rw [if_pos (nI_le (by omega) (by omega)), show e256 (ltr b p 0) (rL μ 38 0 i) = rL μ 38 0 i from rfl, wL_id]
  | k + 1, p, fu + 1, μ, h, hf, hb, hL, h8 => by
    obtain ⟨x, x1, x2, x3, x4⟩ := isL_n (hL p (Nat.le_refl p) (by omega))
    rw [X6_addWord_L51]
    rw [if_neg (nI_ge (by omega) (by omega)), h8, if_pos (inb_nI (by omega) (by omega)), if_pos (inb_nI (by omega) (by omega)), if_pos (inb_nI (by omega) (by omega)), ix_nI (by omega), ix_nI (by omega), hb p (by omega), x3, nI_l (by omega), nI_1, aw_l51 hq i9 k (p + 1) fu (wL μ 38 0 i (rL μ 38 0 i * 256 + lN (x + 96))) (by omega) (by omega) hb (fun j a c => hL j (by omega) c) h8, wL_wL, rL_s]
    rw [show ltr b p (k + 1) = (ix (b p) - 96) :: ltr b (p + 1) k from rfl, x4]
    rfl
theorem aw_l2 {s q : Nat} (hn : n ≤ 900) (hb : ∀ j, j < n → rI μ 35 0 j = b j) (he : n ≤ q ∨ ¬ isL b q) : ∀ (k p fu : Nat), p + k = q → k < fu → (∀ j, p ≤ j → j < q → j < n ∧ isL b j) → q ≤ n → X6_addWord_L2 fu (nI s) (nI n) (nI p) μ = X6_addWord_J25 (nI s) (nI q) μ
  | 0, p, fu + 1, h, _, hL, hq => by
    have e : p = q := by omega
    subst e
    rw [X6_addWord_L2]
    by_cases c : n ≤ p
    · rw [if_pos (nI_le c (by omega))]
    · have hL0 : ¬ isL b p := by
        rcases he with z | z
        · omega
        · exact z
      rw [if_neg (nI_ge (by omega) (by omega)), if_pos (inb_nI (by omega) (by omega)), ix_nI (by omega), hb p (by omega), lt0_ hL0, bI_s, if_pos rfl]
  | k + 1, p, fu + 1, h, hf, hL, hq => by
    have hp := hL p (Nat.le_refl p) (by omega)
    rw [X6_addWord_L2]
    rw [if_neg (nI_ge (by omega) (by omega)), if_pos (inb_nI (by omega) (by omega)), ix_nI (by omega), hb p (by omega), lt1_ hp.2, bI_s, if_neg n10, nI_1]
    exact aw_l2 hn hb he k (p + 1) fu (by omega) (by omega) (fun j a c => hL j (by omega) c) hq
theorem addWord_e {s q : Nat} (hn : n ≤ 900) (i9 : i ≤ 900) (hb : ∀ j, j < n → rI μ 35 0 j = b j) (h8 : rI μ 7 0 8 = nI i) (h0 : rL μ 38 0 i = 0) (hS : Sp (isL b) n s q) (hs : s < n) : ∃ K V, X6_addWord (nI s) (nI n) μ = some (nI q, wL (wI μ 36 0 i (nI K)) 38 0 i V) ∧ ((8 < q - s ∧ K = 28) ∨ (q - s ≤ 8 ∧ K ≤ 27 ∧ V = e256 (ltr b s (q - s)) 0 ∧ ∀ k, k < 27 → (ltr b s (q - s) = kwl k ↔ K = k))) := by
  have hq := Sp_n hS (by omega)
  have s1 := hS.1
  have e1 := aw_l2 (μ := μ) (s := s) hn hb hS.2.2 (q - s) s fuN (by omega) (fuN_6 (by omega)) hS.2.1 hq
  unfold X6_addWord
  rw [e1]
  unfold X6_addWord_J25 X6_kindOfWord
  rw [pk_sub s1, h8, ix_nI (by omega)]
  by_cases c : q - s ≤ 8
  · obtain ⟨K, K27, e2, hK⟩ := kow_l (μ := μ) (b := b) (s := s) (m := q - s) (fun j hj => hb j (by omega)) (by omega) (fun j a d => (hS.2.1 j a (by omega)).2) 27 0 fuN (by omega) (by unfold fuN; omega) (fun k' hk' => by omega)
    rw [show s + (q - s) = q by omega] at e2
    have l51 := aw_l51 (b := b) (i := i) (q := q) (by omega) i9 (q - s) s fuN (wI μ 36 0 i (nI K)) (by omega) (fuN_6 (by omega)) (fun j hj => by rw [rI_k (by decide)]; exact hb j (by omega)) (fun j a d => (hS.2.1 j a d).2) (by rw [rI_k (by decide)]; exact h8)
    refine ⟨K, e256 (ltr b s (q - s)) 0, ?_, Or.inr ⟨c, K27, rfl, hK⟩⟩
    rw [if_pos (show nI (q - s) ≤ 8 from nI_le (b := 8) c (by omega))]
    have z : kwf 0 = 0 := by decide +kernel
    rw [z, nI_0] at e2
    rw [e2, bI_s, if_pos (inb_nI (by omega) (by omega)), if_neg (show ¬ (8 : Int32) < nI (q - s) from nI_nlt (a := 8) c (by omega)), l51, show rL (wI μ 36 0 i (nI K)) 38 0 i = 0 from h0]
  · refine ⟨28, rL μ 38 0 i, ?_, Or.inl ⟨by omega, rfl⟩⟩
    rw [if_neg (show ¬ nI (q - s) ≤ 8 from nI_ge (a := 8) (by omega) (by omega)), bI_s, if_pos (inb_nI (by omega) (by omega)), if_pos (show (8 : Int32) < nI (q - s) from nI_lt (a := 8) (by omega) (by omega))]
    have z := wL_id (wI μ 36 0 i (nI 28)) 38 0 i
    rw [show rL (wI μ 36 0 i (nI 28)) 38 0 i = rL μ 38 0 i from rfl] at z
    rw [z]
    rfl
theorem an_l2 {s q : Nat} (hn : n ≤ 900) (i9 : i ≤ 900) (he : n ≤ q ∨ ¬ isD b q) (hqn : q ≤ n) : ∀ (k p fu : Nat) (μ : sM), p + k = q → k < fu → s ≤ p → (∀ j, j < n → rI μ 35 0 j = b j) → (∀ j, p ≤ j → j < q → j < n ∧ isD b j) → rI μ 7 0 8 = nI i → ∃ V, X6_addNumber_L2 fu (nI s) (nI n) (nI p) μ = X6_addNumber_J66 (nI s) (nI n) (nI q) (wL μ 38 0 i V) ∧ (q - s ≤ 4 → ∀ v, rL μ 38 0 i = lN v → V = lN (dgv b p k v))
  | 0, p, fu + 1, μ, h, _, hs, hb, hD, h8 => by
    have e : p = q := by omega
    subst e
    refine ⟨rL μ 38 0 i, ?_, fun _ v hv => hv⟩
    rw [wL_id, X6_addNumber_L2]
    by_cases c : n ≤ p
    · rw [if_pos (nI_le c (by omega))]
    · have hD0 : ¬ isD b p := by
        rcases he with z | z
        · omega
        · exact z
      rw [if_neg (nI_ge (by omega) (by omega)), if_pos (inb_nI (by omega) (by omega)), ix_nI (by omega), hb p (by omega), dg0_ hD0, bI_s, if_pos rfl]
  | k + 1, p, fu + 1, μ, h, hf, hs, hb, hD, h8 => by
    have hp := hD p (Nat.le_refl p) (by omega)
    obtain ⟨x, x9, x3, x4⟩ := isD_n hp.2
    rw [X6_addNumber_L2]
    rw [if_neg (nI_ge (by omega) (by omega)), if_pos (inb_nI (by omega) (by omega)), ix_nI (by omega), hb p (by omega), dg1_ hp.2, bI_s, if_neg n10, pk_sub hs]
    unfold X6_addNumber_J60
    by_cases c : 4 ≤ p - s
    · obtain ⟨V, e, -⟩ := an_l2 (s := s) hn i9 he hqn k (p + 1) fu μ (by omega) (by omega) (by omega) hb (fun j a d => hD j (by omega) d) h8
      refine ⟨V, ?_, fun z => by omega⟩
      rw [if_pos (show (4 : Int32) ≤ nI (p - s) from nI_le (a := 4) c (by omega)), nI_1, e]
    · obtain ⟨V, e, hV⟩ := an_l2 (s := s) hn i9 he hqn k (p + 1) fu (wL μ 38 0 i (((rL μ 38 0 i * 10) + (b p).toInt64) - 48)) (by omega) (by omega) (by omega) hb (fun j a d => hD j (by omega) d) h8
      refine ⟨V, ?_, fun z v hv => ?_⟩
      · rw [if_neg (show ¬ (4 : Int32) ≤ nI (p - s) from nI_ge (b := 4) (by omega) (by omega)), h8, if_pos (inb_nI (by omega) (by omega)), if_pos (inb_nI (by omega) (by omega)), if_pos (inb_nI (by omega) (by omega)), ix_nI (by omega), hb p (by omega), nI_1, e, wL_wL]
      · have z2 := hV z (v * 10 + x) (by
          rw [rL_s, hv, x3, nI_l (by omega), show (10 : Int64) = lN 10 from rfl, show (48 : Int64) = lN 48 from rfl, lN_mul, lN_add, lN_sub (by omega)]
          congr 1)
        rw [z2]
        show _ = lN (dgv b (p + 1) k (v * 10 + (ix (b p) - 48)))
        rw [x4]
theorem addNumber_e {s q : Nat} (hn : n ≤ 900) (i9 : i ≤ 900) (hb : ∀ j, j < n → rI μ 35 0 j = b j) (h8 : rI μ 7 0 8 = nI i) (h0 : rL μ 38 0 i = 0) (hS : Sp (isD b) n s q) (hs : s < n) : ∃ K V e, X6_addNumber (nI s) (nI n) μ = some (nI e, wI (wL μ 38 0 i V) 36 0 i (nI K)) ∧ ((4 < q - s ∧ K = 31 ∧ e = n + 1) ∨ (q - s ≤ 4 ∧ K = 29 ∧ e = q ∧ V = lN (dgv b s (q - s) 0))) := by
  have hq := Sp_n hS (by omega)
  have s1 := hS.1
  obtain ⟨V, e1, hV⟩ := an_l2 (b := b) (s := s) hn i9 hS.2.2 hq (q - s) s fuN μ (by omega) (fuN_6 (by omega)) (Nat.le_refl s) hb hS.2.1 h8
  unfold X6_addNumber
  rw [e1]
  unfold X6_addNumber_J66 X6_addNumber_J78 X6_addNumber_J100
  rw [pk_sub s1, rI_wL, h8]
  by_cases c : q - s ≤ 4
  · refine ⟨29, V, q, ?_, Or.inr ⟨c, rfl, rfl, hV c 0 h0⟩⟩
    rw [if_neg (show ¬ (4 : Int32) < nI (q - s) from nI_nlt (a := 4) c (by omega)), if_neg n10, if_pos (inb_nI (by omega) (by omega)), if_neg n10, ix_nI (by omega)]
    rfl
  · refine ⟨31, V, n + 1, ?_, Or.inl ⟨by omega, rfl, rfl⟩⟩
    rw [if_pos (show (4 : Int32) < nI (q - s) from nI_lt (a := 4) (by omega) (by omega)), if_pos rfl, if_pos (inb_nI (by omega) (by omega)), if_pos rfl, ix_nI (by omega), nI_1]
    rfl
theorem addSign_e {s : Nat} (hn : n ≤ 900) (i9 : i ≤ 900) (hb : ∀ j, j < n → rI μ 35 0 j = b j) (h8 : rI μ 7 0 8 = nI i) (hs : s < n) : ∃ K e, X6_addSign (nI s) (nI n) μ = some (nI e, wL (wI μ 36 0 i (nI K)) 38 0 i (b s).toInt64) ∧ ((isS b s ∧ K = 30 ∧ e = s + 1) ∨ (¬ isS b s ∧ K = 31 ∧ e = n + 1)) := by
  unfold X6_addSign X6_addSign_J31 X6_addSign_J36 X6_addSign_J58
  rw [if_pos (inb_nI (by omega) (by omega)), ix_nI (by omega), hb s hs, h8]
  have e8 : ∀ K : Int32, rI μ 7 0 8 = nI i := fun _ => h8
  have ye : (if (1 : Int32) = 0 then (if inb (nI i) 901 = true then if inb (nI i) 901 = true then if (1 : Int32) = 0 then some (nI n + 1, wL (wI μ 36 0 (ix (nI i)) 31) 38 0 (ix (nI i)) (b s).toInt64) else some (nI s + 1, wL (wI μ 36 0 (ix (nI i)) 31) 38 0 (ix (nI i)) (b s).toInt64) else none else none) else (if inb (nI i) 901 = true then if inb (nI i) 901 = true then if (1 : Int32) = 0 then some (nI n + 1, wL (wI μ 36 0 (ix (nI i)) 30) 38 0 (ix (nI i)) (b s).toInt64) else some (nI s + 1, wL (wI μ 36 0 (ix (nI i)) 30) 38 0 (ix (nI i)) (b s).toInt64) else none else none)) = some (nI (s + 1), wL (wI μ 36 0 i (nI 30)) 38 0 i (b s).toInt64) := by
    rw [if_neg n10, if_pos (inb_nI (by omega) (by omega)), if_pos (inb_nI (by omega) (by omega)), if_neg n10, ix_nI (by omega), nI_1]
    rfl
  by_cases c1 : b s = 59
  · refine ⟨30, s + 1, ?_, Or.inl ⟨Or.inl c1, rfl, rfl⟩⟩
    rw [if_pos c1]
    exact ye
  · rw [if_neg c1]
    by_cases c2 : b s = 60
    · refine ⟨30, s + 1, ?_, Or.inl ⟨Or.inr (Or.inl c2), rfl, rfl⟩⟩
      rw [if_pos c2]
      exact ye
    · rw [if_neg c2]
      by_cases c3 : b s = 62
      · refine ⟨30, s + 1, ?_, Or.inl ⟨Or.inr (Or.inr (Or.inl c3)), rfl, rfl⟩⟩
        rw [if_pos c3]
        exact ye
      · rw [if_neg c3]
        by_cases c4 : b s = 61
        · refine ⟨30, s + 1, ?_, Or.inl ⟨Or.inr (Or.inr (Or.inr c4)), rfl, rfl⟩⟩
          rw [if_pos c4]
          exact ye
        · refine ⟨31, n + 1, ?_, Or.inr ⟨?_, rfl, rfl⟩⟩
          · rw [if_neg c4, if_pos rfl, if_pos (inb_nI (by omega) (by omega)), if_pos (inb_nI (by omega) (by omega)), if_pos rfl, ix_nI (by omega), nI_1]
            rfl
          · intro z
            rcases z with z | z | z | z
            · exact c1 z
            · exact c2 z
            · exact c3 z
            · exact c4 z
/-! one TOKEN -/
theorem at_l2 {s : Nat} (hn : n ≤ 900) (hb : ∀ j, j < n → rI μ 35 0 j = b j) (he : n ≤ s ∨ ¬ isB b s) (hsn : s ≤ n) : ∀ (k p fu : Nat), p + k = s → k < fu → (∀ j, p ≤ j → j < s → j < n ∧ isB b j) → X6_addToken_L2 fu (nI n) (nI p) μ = X6_addToken_J25 (nI n) (nI s) μ
  | 0, p, fu + 1, h, _, hB => by
    have e : p = s := by omega
    subst e
    rw [X6_addToken_L2]
    by_cases c : n ≤ p
    · rw [if_pos (nI_le c (by omega))]
    · have hB0 : ¬ isB b p := by
        rcases he with z | z
        · omega
        · exact z
      rw [if_neg (nI_ge (by omega) (by omega)), if_pos (inb_nI (by omega) (by omega)), ix_nI (by omega), hb p (by omega), bk0_ hB0, bI_s, if_pos rfl]
  | k + 1, p, fu + 1, h, hf, hB => by
    have hp := hB p (Nat.le_refl p) (by omega)
    rw [X6_addToken_L2]
    rw [if_neg (nI_ge (by omega) (by omega)), if_pos (inb_nI (by omega) (by omega)), ix_nI (by omega), hb p (by omega), bk1_ hp.2, bI_s, if_neg n10, nI_1]
    exact at_l2 hn hb he hsn k (p + 1) fu (by omega) (by omega) (fun j a d => hB j (by omega) d)
theorem addToken_e {p : Nat} (hn : n ≤ 900) (i9 : i ≤ 900) (hp : p ≤ n) (hb : ∀ j, j < n → rI μ 35 0 j = b j) (h8 : rI μ 7 0 8 = nI i) : ∃ K V s e, Tok b n p K V s e ∧ X6_addToken (nI p) (nI n) μ = some (nI e, T3 μ i (nI s) V (nI K)) := by
  obtain ⟨s, hS, -⟩ := Sp_ex (isB b) n n p (by omega)
  have hsn := Sp_n hS hp
  have hps := hS.1
  have e1 := at_l2 (μ := μ) hn hb hS.2.2 hsn (s - p) p fuN (by omega) (fuN_6 (by omega)) hS.2.1
  have hb1 : ∀ j, j < n → rI (wL (wI μ 37 0 i (nI s)) 38 0 i 0) 35 0 j = b j := fun j hj => by rw [rI_wL, rI_k (by decide)]; exact hb j hj
  have h81 : rI (wL (wI μ 37 0 i (nI s)) 38 0 i 0) 7 0 8 = nI i := by rw [rI_wL, rI_k (by decide)]; exact h8
  have h01 : rL (wL (wI μ 37 0 i (nI s)) 38 0 i 0) 38 0 i = 0 := rL_s
  unfold X6_addToken
  rw [e1]
  unfold X6_addToken_J25 X6_addToken_J123
  rw [h8, if_pos (inb_nI (by omega) (by omega)), if_pos (inb_nI (by omega) (by omega)), ix_nI (show i < 2 ^ 31 by omega)]
  by_cases c : n ≤ s
  · refine ⟨32, 0, s, n + 1, ⟨hS, Or.inl ⟨c, rfl, rfl⟩⟩, ?_⟩
    rw [if_neg (nI_nlt c (by omega)), if_pos (inb_nI (by omega) (by omega)), nI_1, rI_k (by decide), h81, nI_1]
    rfl
  · rw [if_pos (nI_lt (by omega) (by omega)), if_pos (inb_nI (by omega) (by omega)), ix_nI (show s < 2 ^ 31 by omega), hb s (by omega)]
    by_cases cL : isL b s
    · rw [lt1_ cL, bI_s, if_neg n10]
      obtain ⟨q, hq, hq'⟩ := Sp_ex (isL b) n n s (by omega)
      have sq : s < q := by
        have := hq.1
        rcases hq.2.2 with z | z
        · omega
        · by_cases e : s = q
          · rw [← e] at z; exact absurd cL z
          · omega
      obtain ⟨K, V, e2, hK⟩ := addWord_e hn i9 hb1 h81 h01 hq (by omega)
      refine ⟨K, V, s, q, ⟨hS, Or.inr (Or.inl ⟨by omega, cL, q, hq, sq, rfl, hK⟩)⟩, ?_⟩
      rw [e2, bI_s, rI_wL, rI_k (by decide), h81, nI_1, T3_w]
    · rw [lt0_ cL, bI_s, if_pos rfl, if_pos (inb_nI (by omega) (by omega)), hb1 s (by omega)]
      by_cases cD : isD b s
      · rw [dg1_ cD, bI_s, if_neg n10]
        obtain ⟨q, hq, hq'⟩ := Sp_ex (isD b) n n s (by omega)
        have sq : s < q := by
          have := hq.1
          rcases hq.2.2 with z | z
          · omega
          · by_cases e : s = q
            · rw [← e] at z; exact absurd cD z
            · omega
        obtain ⟨K, V, e, e2, hK⟩ := addNumber_e hn i9 hb1 h81 h01 hq (by omega)
        refine ⟨K, V, s, e, ⟨hS, Or.inr (Or.inr (Or.inl ⟨by omega, cL, cD, q, hq, sq, hK⟩))⟩, ?_⟩
        rw [e2, bI_s, rI_k (by decide), rI_wL, h81, nI_1, T3_n]
      · rw [dg0_ cD, bI_s, if_pos rfl]
        obtain ⟨K, e, e2, hK⟩ := addSign_e hn i9 hb1 h81 (show s < n by omega)
        refine ⟨K, (b s).toInt64, s, e, ⟨hS, Or.inr (Or.inr (Or.inr ⟨by omega, cL, cD, ?_⟩))⟩, ?_⟩
        · rcases hK with ⟨z1, z2, z3⟩ | z
          · exact Or.inl ⟨z1, z2, z3, rfl⟩
          · exact Or.inr z
        · rw [e2, bI_s, rI_wL, rI_k (by decide), h81, nI_1, T3_w]
/-! all of them -/
def Ch (μ : sM) (b : Nat → Int32) (n : Nat) : Nat → Nat → Nat → Prop
  | 0, _, p => n < p
  | m + 1, i, p => p ≤ n ∧ ∃ K V s e, Tok b n p K V s e ∧ rI μ 36 0 i = nI K ∧ rI μ 37 0 i = nI s ∧ rL μ 38 0 i = V ∧ Ch μ b n m (i + 1) e
theorem Ch_c {μ' : sM} : ∀ (m i p : Nat), (∀ j, rI μ' 36 0 j = rI μ 36 0 j ∧ rI μ' 37 0 j = rI μ 37 0 j ∧ rL μ' 38 0 j = rL μ 38 0 j) → Ch μ b n m i p → Ch μ' b n m i p
  | 0, _, _, _, h => h
  | m + 1, i, p, a, ⟨h1, K, V, s, e, h2, h3, h4, h5, h6⟩ => ⟨h1, K, V, s, e, h2, by rw [(a i).1]; exact h3, by rw [(a i).2.1]; exact h4, by rw [(a i).2.2]; exact h5, Ch_c m (i + 1) e a h6⟩
/-- what reading leaves alone in the class -/
def qTk (k _ j : Nat) : Bool := !(k == 36 || (k == 37 || (k == 38 || (k == 7 && j == 8))))
theorem begin_l (hn : n ≤ 900) : ∀ (k p i fu : Nat) (μ : sM), n + 1 ≤ p + k → p ≤ n + 1 → i ≤ p → k < fu → (∀ j, j < n → rI μ 35 0 j = b j) → rI μ 7 0 8 = nI i → ∃ m μ', X6_begin_L19 fu (nI n) (nI p) (nI i) μ = X6_begin_J43 μ' ∧ Ch μ' b n m i p ∧ rI μ' 7 0 8 = nI (i + m) ∧ i + m ≤ n + 1 ∧ kq qTk μ μ' ∧ ∀ j, j < i → rI μ' 36 0 j = rI μ 36 0 j ∧ rI μ' 37 0 j = rI μ 37 0 j ∧ rL μ' 38 0 j = rL μ 38 0 j
  | 0, p, i, fu + 1, μ, h, h1, h2, _, hb, h8 => by
    refine ⟨0, μ, ?_, by show n < p; omega, h8, by omega, kq_r, fun _ _ => ⟨rfl, rfl, rfl⟩⟩
    rw [X6_begin_L19]
    by_cases c : n < i
    · rw [if_pos (nI_lt c (by omega))]
    · rw [if_neg (nI_nlt (by omega) (by omega)), if_pos (nI_lt (by omega) (by omega))]
  | k + 1, p, i, fu + 1, μ, h, h1, h2, hf, hb, h8 => by
    by_cases c : n < p
    · refine ⟨0, μ, ?_, c, h8, by omega, kq_r, fun _ _ => ⟨rfl, rfl, rfl⟩⟩
      rw [X6_begin_L19]
      by_cases d : n < i
      · rw [if_pos (nI_lt d (by omega))]
      · rw [if_neg (nI_nlt (by omega) (by omega)), if_pos (nI_lt (by omega) (by omega))]
    · obtain ⟨K, V, s, e, hT, e1⟩ := addToken_e (μ := μ) (i := i) hn (by omega) (show p ≤ n by omega) hb h8
      obtain ⟨t1, t2, t3, t4, t5⟩ := Tok_e hT (by omega)
      obtain ⟨m, μ', e2, hC, g8, gm, gk, gj⟩ := begin_l hn k e (i + 1) fu (T3 μ i (nI s) V (nI K)) (by omega) t4 (by omega) (by omega) (fun j hj => by rw [rI_k (by decide), rI_k (by decide), rI_wL, rI_k (by decide)]; exact hb j hj) rI_s
      obtain ⟨a1, a2, a3⟩ := gj i (by omega)
      refine ⟨m + 1, μ', ?_, ⟨by omega, K, V, s, e, hT, ?_, ?_, ?_, hC⟩, by rw [g8]; congr 1; omega, by omega, kq_t (kq_wI rfl (kq_wI rfl (kq_wL rfl (kq_wI rfl kq_r)))) gk, fun j hj => ?_⟩
      · rw [X6_begin_L19]
        rw [if_neg (nI_nlt (by omega) (by omega)), if_neg (nI_nlt (by omega) (by omega)), e1, bI_s, nI_1, e2]
      · rw [a1, rI_k (by decide), rI_s]
      · rw [a2, rI_k (by decide), rI_k (by decide), rI_wL, rI_s]
      · rw [a3, rL_wI, rL_wI, rL_s]
      · obtain ⟨b1, b2, b3⟩ := gj j (by omega)
        refine ⟨?_, ?_, ?_⟩
        · rw [b1, rI_k (by decide), rI_j (by omega), rI_wL, rI_k (by decide)]
        · rw [b2, rI_k (by decide), rI_k (by decide), rI_wL, rI_j (by omega)]
        · rw [b3, rL_wI, rL_wI, rL_j (by omega), rL_wI]
end C98k
