/-! 06: a straight step of the plain machine is a step of the machine -/
theorem slv_i (x : Int32) : slv (.inl x) := trivial
theorem slv_l (x : Int64) : slv (.inr (.inl x)) := trivial
theorem sl_cons {v : sV} {st : List sV} (h1 : slv v) (h2 : ∀ w ∈ st, slv w) : ∀ w ∈ v :: st, slv w := fun w h => (List.mem_cons.mp h).elim (fun e => e ▸ h1) (h2 w)
theorem sl_tail {v : sV} {st : List sV} (h : ∀ w ∈ v :: st, slv w) : ∀ w ∈ st, slv w := fun w hw => h w (List.mem_cons_of_mem _ hw)
theorem sl_head {v : sV} {st : List sV} (h : ∀ w ∈ v :: st, slv w) : slv v := h v List.mem_cons_self
theorem sl_ls1 {i : Nat} {v : sV} {lo : sL} (h1 : slv v) (h2 : ∀ q ∈ lo, slv q.2) : ∀ q ∈ ls1 i v lo, slv q.2 := fun q h => (List.mem_cons.mp h).elim (fun e => e ▸ h1) (fun h => h2 q (List.mem_filter.mp h).1)
theorem sl_ls2 {i : Nat} {v : sV} {lo : sL} (h1 : slv v) (h2 : ∀ q ∈ lo, slv q.2) : ∀ q ∈ ls2 i v lo, slv q.2 := fun q h => (List.mem_cons.mp h).elim (fun e => e ▸ h1) (fun h => h2 q (List.mem_filter.mp h).1)
theorem lk_at {E : sE} {ls : Array Slot} {nL i : Nat} {lo : sL} {v : sV} (h : lv_has ls nL (lo.map (gl E))) (hk : lk i lo = some v) : ls[i]? = some (.val (gm E v)) := h.2.2 (i, gm E v) (List.mem_map.mpr ⟨(i, v), lk_mem hk, rfl⟩)
theorem lk_pl {E : sE} {i : Nat} {lo : sL} {v : sV} (hk : lk i lo = some v) : ∃ n : Nat, (lo.map (gl E))[n]? = some (i, gm E v) := List.mem_iff_getElem?.mp (List.mem_map.mpr ⟨(i, v), lk_mem hk, rfl⟩)
theorem i_il {i : Nat} {lo lo' : sL} {st st' : List sV} {μ μ' : sM} (h : e_il i lo st μ = some (lo', st', μ')) : ∃ x, lk i lo = some (.inl x) ∧ lo' = lo ∧ st' = .inl x :: st ∧ μ' = μ := by
  unfold e_il at h
  split at h
  · rename_i x hx
    simp only [Option.some.injEq, Prod.mk.injEq] at h
    exact ⟨x, hx, h.1.symm, h.2.1.symm, h.2.2.symm⟩
  · cases h
theorem i_ll {i : Nat} {lo lo' : sL} {st st' : List sV} {μ μ' : sM} (h : e_ll i lo st μ = some (lo', st', μ')) : ∃ x, lk i lo = some (.inr (.inl x)) ∧ lo' = lo ∧ st' = .inr (.inl x) :: st ∧ μ' = μ := by
  unfold e_ll at h
  split at h
  · rename_i x hx
    simp only [Option.some.injEq, Prod.mk.injEq] at h
    exact ⟨x, hx, h.1.symm, h.2.1.symm, h.2.2.symm⟩
  · cases h
theorem i_al {i : Nat} {lo lo' : sL} {st st' : List sV} {μ μ' : sM} (h : e_al i lo st μ = some (lo', st', μ')) : ∃ x, lk i lo = some (.inr (.inr x)) ∧ lo' = lo ∧ st' = .inr (.inr x) :: st ∧ μ' = μ := by
  unfold e_al at h
  split at h
  · rename_i x hx
    simp only [Option.some.injEq, Prod.mk.injEq] at h
    exact ⟨x, hx, h.1.symm, h.2.1.symm, h.2.2.symm⟩
  · cases h
theorem i_is {nL i : Nat} {lo lo' : sL} {st st' : List sV} {μ μ' : sM} (h : e_is nL i lo st μ = some (lo', st', μ')) : ∃ x, st = .inl x :: st' ∧ lo' = ls1 i (.inl x) lo ∧ μ' = μ ∧ i < nL := by
  unfold e_is at h
  split at h
  · rename_i x t
    split at h
    · simp only [Option.some.injEq, Prod.mk.injEq] at h
      exact ⟨x, by rw [h.2.1], h.1.symm, h.2.2.symm, by assumption⟩
    · cases h
  · cases h
theorem i_ls {nL i : Nat} {lo lo' : sL} {st st' : List sV} {μ μ' : sM} (h : e_ls nL i lo st μ = some (lo', st', μ')) : ∃ x, st = .inr (.inl x) :: st' ∧ lo' = ls2 i (.inr (.inl x)) lo ∧ μ' = μ ∧ i + 1 < nL := by
  unfold e_ls at h
  split at h
  · rename_i x t
    split at h
    · simp only [Option.some.injEq, Prod.mk.injEq] at h
      exact ⟨x, by rw [h.2.1], h.1.symm, h.2.2.symm, by assumption⟩
    · cases h
  · cases h
theorem i_as {nL i : Nat} {lo lo' : sL} {st st' : List sV} {μ μ' : sM} (h : e_as nL i lo st μ = some (lo', st', μ')) : ∃ x, st = .inr (.inr x) :: st' ∧ lo' = ls1 i (.inr (.inr x)) lo ∧ μ' = μ ∧ i < nL := by
  unfold e_as at h
  split at h
  · rename_i x t
    split at h
    · simp only [Option.some.injEq, Prod.mk.injEq] at h
      exact ⟨x, by rw [h.2.1], h.1.symm, h.2.2.symm, by assumption⟩
    · cases h
  · cases h
theorem i_inc {nL i : Nat} {c : Int32} {lo lo' : sL} {st st' : List sV} {μ μ' : sM} (h : e_inc nL i c lo st μ = some (lo', st', μ')) : ∃ x, lk i lo = some (.inl x) ∧ lo' = ls1 i (.inl (x + c)) lo ∧ st' = st ∧ μ' = μ ∧ i < nL := by
  unfold e_inc at h
  split at h
  · rename_i x hx
    split at h
    · simp only [Option.some.injEq, Prod.mk.injEq] at h
      exact ⟨x, hx, h.1.symm, h.2.1.symm, h.2.2.symm, by assumption⟩
    · cases h
  · cases h
theorem i_ii {f : Int32 → Int32 → Int32} {lo lo' : sL} {st st' : List sV} {μ μ' : sM} (h : e_ii f lo st μ = some (lo', st', μ')) : ∃ x y t, st = .inl y :: .inl x :: t ∧ lo' = lo ∧ st' = .inl (f x y) :: t ∧ μ' = μ := by
  unfold e_ii at h
  split at h
  · rename_i y x t
    simp only [Option.some.injEq, Prod.mk.injEq] at h
    exact ⟨x, y, t, rfl, h.1.symm, h.2.1.symm, h.2.2.symm⟩
  · cases h
theorem i_id {f : Int32 → Int32 → Int32} {lo lo' : sL} {st st' : List sV} {μ μ' : sM} (h : e_id f lo st μ = some (lo', st', μ')) : ∃ x y t, st = .inl y :: .inl x :: t ∧ lo' = lo ∧ st' = .inl (f x y) :: t ∧ μ' = μ ∧ ¬ y = 0 := by
  unfold e_id at h
  split at h
  · rename_i y x t
    split at h
    · cases h
    · simp only [Option.some.injEq, Prod.mk.injEq] at h
      exact ⟨x, y, t, rfl, h.1.symm, h.2.1.symm, h.2.2.symm, by assumption⟩
  · cases h
theorem i_lL {f : Int64 → Int64 → Int64} {lo lo' : sL} {st st' : List sV} {μ μ' : sM} (h : e_lL f lo st μ = some (lo', st', μ')) : ∃ x y t, st = .inr (.inl y) :: .inr (.inl x) :: t ∧ lo' = lo ∧ st' = .inr (.inl (f x y)) :: t ∧ μ' = μ := by
  unfold e_lL at h
  split at h
  · rename_i y x t
    simp only [Option.some.injEq, Prod.mk.injEq] at h
    exact ⟨x, y, t, rfl, h.1.symm, h.2.1.symm, h.2.2.symm⟩
  · cases h
theorem i_lD {f : Int64 → Int64 → Int64} {lo lo' : sL} {st st' : List sV} {μ μ' : sM} (h : e_lD f lo st μ = some (lo', st', μ')) : ∃ x y t, st = .inr (.inl y) :: .inr (.inl x) :: t ∧ lo' = lo ∧ st' = .inr (.inl (f x y)) :: t ∧ μ' = μ ∧ ¬ y = 0 := by
  unfold e_lD at h
  split at h
  · rename_i y x t
    split at h
    · cases h
    · simp only [Option.some.injEq, Prod.mk.injEq] at h
      exact ⟨x, y, t, rfl, h.1.symm, h.2.1.symm, h.2.2.symm, by assumption⟩
  · cases h
theorem i_u {f : Int32 → sV} {lo lo' : sL} {st st' : List sV} {μ μ' : sM} (h : e_u f lo st μ = some (lo', st', μ')) : ∃ x t, st = .inl x :: t ∧ lo' = lo ∧ st' = f x :: t ∧ μ' = μ := by
  unfold e_u at h
  split at h
  · rename_i x t
    simp only [Option.some.injEq, Prod.mk.injEq] at h
    exact ⟨x, t, rfl, h.1.symm, h.2.1.symm, h.2.2.symm⟩
  · cases h
theorem i_U {f : Int64 → sV} {lo lo' : sL} {st st' : List sV} {μ μ' : sM} (h : e_U f lo st μ = some (lo', st', μ')) : ∃ x t, st = .inr (.inl x) :: t ∧ lo' = lo ∧ st' = f x :: t ∧ μ' = μ := by
  unfold e_U at h
  split at h
  · rename_i x t
    simp only [Option.some.injEq, Prod.mk.injEq] at h
    exact ⟨x, t, rfl, h.1.symm, h.2.1.symm, h.2.2.symm⟩
  · cases h
theorem i_lcmp {lo lo' : sL} {st st' : List sV} {μ μ' : sM} (h : e_lcmp lo st μ = some (lo', st', μ')) : ∃ x y t, st = .inr (.inl y) :: .inr (.inl x) :: t ∧ lo' = lo ∧ st' = .inl (lg_cmp x y) :: t ∧ μ' = μ := by
  unfold e_lcmp at h
  split at h
  · rename_i y x t
    simp only [Option.some.injEq, Prod.mk.injEq] at h
    exact ⟨x, y, t, rfl, h.1.symm, h.2.1.symm, h.2.2.symm⟩
  · cases h
theorem i_lshl {lo lo' : sL} {st st' : List sV} {μ μ' : sM} (h : e_lshl lo st μ = some (lo', st', μ')) : ∃ x y t, st = .inl y :: .inr (.inl x) :: t ∧ lo' = lo ∧ st' = .inr (.inl (x <<< (y.toInt64 &&& 63))) :: t ∧ μ' = μ := by
  unfold e_lshl at h
  split at h
  · rename_i y x t
    simp only [Option.some.injEq, Prod.mk.injEq] at h
    exact ⟨x, y, t, rfl, h.1.symm, h.2.1.symm, h.2.2.symm⟩
  · cases h
theorem i_dup {lo lo' : sL} {st st' : List sV} {μ μ' : sM} (h : e_dup lo st μ = some (lo', st', μ')) : ∃ v t, st = v :: t ∧ lo' = lo ∧ st' = v :: v :: t ∧ μ' = μ ∧ ct2 v = false := by
  unfold e_dup at h
  split at h
  · rename_i v t
    split at h
    · simp only [Option.some.injEq, Prod.mk.injEq] at h
      exact ⟨v, t, rfl, h.1.symm, h.2.1.symm, h.2.2.symm, by assumption⟩
    · cases h
  · cases h
theorem i_pop {lo lo' : sL} {st st' : List sV} {μ μ' : sM} (h : e_pop lo st μ = some (lo', st', μ')) : ∃ v t, st = v :: t ∧ lo' = lo ∧ st' = t ∧ μ' = μ ∧ ct2 v = false := by
  unfold e_pop at h
  split at h
  · rename_i v t
    split at h
    · simp only [Option.some.injEq, Prod.mk.injEq] at h
      exact ⟨v, t, rfl, h.1.symm, h.2.1.symm, h.2.2.symm, by assumption⟩
    · cases h
  · cases h
theorem i_dup2 {lo lo' : sL} {st st' : List sV} {μ μ' : sM} (h : e_dup2 lo st μ = some (lo', st', μ')) : ∃ v w t, st = v :: w :: t ∧ lo' = lo ∧ st' = v :: w :: v :: w :: t ∧ μ' = μ ∧ ct2 v = false ∧ ct2 w = false := by
  unfold e_dup2 at h
  split at h
  · rename_i v w t
    split at h
    · rename_i hc
      simp only [Option.some.injEq, Prod.mk.injEq] at h
      exact ⟨v, w, t, rfl, h.1.symm, h.2.1.symm, h.2.2.symm, hc.1, hc.2⟩
    · cases h
  · cases h
theorem ct1 {E : sE} {v : sV} (h : ct2 v = false) : (gm E v).category = 1 := by
  rcases v with x | x | q
  · rfl
  · cases h
  · rfl
theorem i_iald {b : Nat} {lo lo' : sL} {st st' : List sV} {μ μ' : sM} (h : e_iald b lo st μ = some (lo', st', μ')) : ∃ i q t, st = .inl i :: .inr (.inr q) :: t ∧ lo' = lo ∧ st' = .inl (rI μ q.1 q.2 (ix i)) :: t ∧ μ' = μ ∧ kar q.1 = b ∧ inb i (kln q.1) = true := by
  unfold e_iald at h
  split at h
  · rename_i i q t
    split at h
    · split at h
      · simp only [Option.some.injEq, Prod.mk.injEq] at h
        exact ⟨i, q, t, rfl, h.1.symm, h.2.1.symm, h.2.2.symm, by assumption, by assumption⟩
      · cases h
    · cases h
  · cases h
theorem i_lald {lo lo' : sL} {st st' : List sV} {μ μ' : sM} (h : e_lald lo st μ = some (lo', st', μ')) : ∃ i q t, st = .inl i :: .inr (.inr q) :: t ∧ lo' = lo ∧ st' = .inr (.inl (rL μ q.1 q.2 (ix i))) :: t ∧ μ' = μ ∧ kar q.1 = 2 ∧ inb i (kln q.1) = true := by
  unfold e_lald at h
  split at h
  · rename_i i q t
    split at h
    · split at h
      · simp only [Option.some.injEq, Prod.mk.injEq] at h
        exact ⟨i, q, t, rfl, h.1.symm, h.2.1.symm, h.2.2.symm, by assumption, by assumption⟩
      · cases h
    · cases h
  · cases h
theorem i_aald {lo lo' : sL} {st st' : List sV} {μ μ' : sM} (h : e_aald lo st μ = some (lo', st', μ')) : ∃ i q t, st = .inl i :: .inr (.inr q) :: t ∧ lo' = lo ∧ st' = .inr (.inr ((kae q.1).1, (kae q.1).2 + ix i)) :: t ∧ μ' = μ ∧ kar q.1 = 4 ∧ inb i (kln q.1) = true := by
  unfold e_aald at h
  split at h
  · rename_i i q t
    split at h
    · split at h
      · simp only [Option.some.injEq, Prod.mk.injEq] at h
        exact ⟨i, q, t, rfl, h.1.symm, h.2.1.symm, h.2.2.symm, by assumption, by assumption⟩
      · cases h
    · cases h
  · cases h
theorem i_iast {b : Nat} {f : Int32 → Int32} {lo lo' : sL} {st st' : List sV} {μ μ' : sM} (h : e_iast b f lo st μ = some (lo', st', μ')) : ∃ x i q t, st = .inl x :: .inl i :: .inr (.inr q) :: t ∧ lo' = lo ∧ st' = t ∧ μ' = wI μ q.1 q.2 (ix i) (f x) ∧ kar q.1 = b ∧ inb i (kln q.1) = true := by
  unfold e_iast at h
  split at h
  · rename_i x i q t
    split at h
    · split at h
      · simp only [Option.some.injEq, Prod.mk.injEq] at h
        exact ⟨x, i, q, t, rfl, h.1.symm, h.2.1.symm, h.2.2.symm, by assumption, by assumption⟩
      · cases h
    · cases h
  · cases h
theorem i_last {lo lo' : sL} {st st' : List sV} {μ μ' : sM} (h : e_last lo st μ = some (lo', st', μ')) : ∃ x i q t, st = .inr (.inl x) :: .inl i :: .inr (.inr q) :: t ∧ lo' = lo ∧ st' = t ∧ μ' = wL μ q.1 q.2 (ix i) x ∧ kar q.1 = 2 ∧ inb i (kln q.1) = true := by
  unfold e_last at h
  split at h
  · rename_i x i q t
    split at h
    · split at h
      · simp only [Option.some.injEq, Prod.mk.injEq] at h
        exact ⟨x, i, q, t, rfl, h.1.symm, h.2.1.symm, h.2.2.symm, by assumption, by assumption⟩
      · cases h
    · cases h
  · cases h
/-! reads and writes of cells -/
theorem kar_0 {k b : Nat} (h : kar k = b) (hb : b ≠ 0) : k ≠ 0 := fun q => hb (by rw [← h, q]; rfl)
theorem sl_ref {q : Nat × Nat} (h : slv (.inr (.inr q))) (hk : q.1 ≠ 0) : q.2 < kni q.1 := h.elim id (fun e => absurd e hk)
theorem sad_ne {E : sE} {q : Nat × Nat} (hk : q.1 ≠ 0) : sad E q = (eS E).heap.size + kof q.1 q.2 := if_neg hk
theorem sK_at {E : sE} {s : State} (hE : sEn E) (hw : (eS E).WarmedH s.vm) : va_K (eD E) vwCl (tys E) s := hE.1.moved hw.alike
theorem low_of {E : sE} {s : State} {H1 : Heap} {locs : List Loc} (hlow : ∀ q : Nat, q < (eS E).heap.size → s.heap[q]? = (eS E).heap[q]?) (hsz : (eS E).heap.size ≤ s.heap.size) (hS : va_S (sA E) s.heap H1 locs) : ∀ q : Nat, q < (eS E).heap.size → H1[q]? = (eS E).heap[q]? := fun q hq => by
  rw [hS.2.1 q (by omega) (Nat.not_le.mpr hq)]
  exact hlow q hq
theorem ent_i {E : sE} {μ : sM} {q : Nat × Nat} (h : kar q.1 = 1) : ent E μ q = .inl (eT E 0, kln q.1, .inl (rI μ q.1 q.2)) := by
  unfold ent
  rw [h]
  rfl
theorem ent_l {E : sE} {μ : sM} {q : Nat × Nat} (h : kar q.1 = 2) : ent E μ q = .inl (eT E 1, kln q.1, .inr (.inl (rL μ q.1 q.2))) := by
  unfold ent
  rw [h]
  rfl
theorem ent_b {E : sE} {μ : sM} {q : Nat × Nat} (h : kar q.1 = 3) : ent E μ q = .inl (eT E 2, kln q.1, .inl (rI μ q.1 q.2)) := by
  unfold ent
  rw [h]
  rfl
theorem ent_a {E : sE} {μ : sM} {q : Nat × Nat} (h : kar q.1 = 4) : ent E μ q = .inl (eT E (kat q.1), kln q.1, .inr (.inr (.inr (.inr (fun j => some (sad E ((kae q.1).1, (kae q.1).2 + j))))))) := by
  unfold ent
  rw [h]
  rfl
theorem kar_o : ∀ n, n < 13 → kar (n + 1) = 0 := by decide +kernel
theorem ent_o {E : sE} {μ : sM} {q : Nat × Nat} {n : Nat} (hn : n < 13) (h : q.1 = n + 1) : ent E μ q = .inr (n, (List.range (knf (n + 1))).map (fval E μ q.1 q.2)) := by
  unfold ent
  rw [show kar q.1 = 0 by rw [h]; exact kar_o n hn, h]
  rfl
theorem wI_upd (μ : sM) (k i j : Nat) (v : Int32) : rI (wI μ k i j v) k i = upd (rI μ k i) j v := by
  funext c
  unfold upd
  rw [rI_wI]
  by_cases h : c = j
  · rw [if_pos ⟨rfl, h, rfl⟩, if_pos h]
  · rw [if_neg (fun q => h q.2.1), if_neg h]
theorem wL_upd (μ : sM) (k i j : Nat) (v : Int64) : rL (wL μ k i j v) k i = vp_updL (rL μ k i) j v := by
  funext c
  unfold vp_updL
  rw [rL_wL]
  by_cases h : c = j
  · rw [if_pos ⟨rfl, h, rfl⟩, if_pos h]
  · rw [if_neg (fun q => h q.2.1), if_neg h]
theorem wI_ne {μ : sM} {k i j : Nat} {v : Int32} (a b c : Nat) (h : (a, b) ≠ (k, i)) : rI (wI μ k i j v) a b c = rI μ a b c := by
  rw [rI_wI, if_neg (fun q => pair_ne h ⟨q.1, q.2.2⟩)]
theorem wL_ne {μ : sM} {k i j : Nat} {v : Int64} (a b c : Nat) (h : (a, b) ≠ (k, i)) : rL (wL μ k i j v) a b c = rL μ a b c := by
  rw [rL_wL, if_neg (fun q => pair_ne h ⟨q.1, q.2.2⟩)]
theorem wR_ne {μ : sM} {k i j : Nat} {v : Nat} (a b c : Nat) (h : (a, b) ≠ (k, i)) : rR (wR μ k i j v) a b c = rR μ a b c := by
  rw [rR_wR, if_neg (fun q => pair_ne h ⟨q.1, q.2.2⟩)]
theorem sW_iast {E : sE} {μ : sM} {H H1 : Heap} {q : Nat × Nat} {j : Nat} {v : Int32} {cA : ClassId} (hW : sW E μ H) (h : q.2 < kni q.1) (he : ∀ ν : sM, ent E ν q = .inl (cA, kln q.1, .inl (rI ν q.1 q.2)))
    (hP : va_P (eD E) vwCl ((wld E μ).set (kof q.1 q.2) ((eS E).heap.size + kof q.1 q.2, .inl (cA, kln q.1, .inl (upd (rI μ q.1 q.2) j v)))) H1) (hlow : ∀ q : Nat, q < (eS E).heap.size → H1[q]? = (eS E).heap[q]?) : sW E (wI μ q.1 q.2 j v) H1 :=
  sW_put hW h hP (by rw [he, wI_upd]) wI_ne (fun _ _ _ _ => rfl) (fun _ _ _ _ => rfl) hlow (fun k i j n a b => hW.2.2.2 k i j n a b)
theorem sW_last {E : sE} {μ : sM} {H H1 : Heap} {q : Nat × Nat} {j : Nat} {v : Int64} {cA : ClassId} (hW : sW E μ H) (h : q.2 < kni q.1) (he : ∀ ν : sM, ent E ν q = .inl (cA, kln q.1, .inr (.inl (rL ν q.1 q.2))))
    (hP : va_P (eD E) vwCl ((wld E μ).set (kof q.1 q.2) ((eS E).heap.size + kof q.1 q.2, .inl (cA, kln q.1, .inr (.inl (vp_updL (rL μ q.1 q.2) j v))))) H1) (hlow : ∀ q : Nat, q < (eS E).heap.size → H1[q]? = (eS E).heap[q]?) : sW E (wL μ q.1 q.2 j v) H1 :=
  sW_put hW h hP (by rw [he, wL_upd]) (fun _ _ _ _ => rfl) wL_ne (fun _ _ _ _ => rfl) hlow (fun k i j n a b => hW.2.2.2 k i j n a b)
/-- an object behind a change of one field -/
theorem sW_field {E : sE} {μ μ' : sM} {H H1 : Heap} {q : Nat × Nat} {n j : Nat} {v : Value} (hW : sW E μ H) (h : q.2 < kni q.1) (hn : n < 13) (hq : q.1 = n + 1)
    (hP : va_P (eD E) vwCl ((wld E μ).set (kof q.1 q.2) ((eS E).heap.size + kof q.1 q.2, .inr (n, ((List.range (knf (n + 1))).map (fval E μ q.1 q.2)).set j v))) H1) (hv : fval E μ' q.1 q.2 j = v)
    (hI : ∀ a b c, ¬ (a = q.1 ∧ c = j ∧ b = q.2) → rI μ' a b c = rI μ a b c) (hL : ∀ a b c, ¬ (a = q.1 ∧ c = j ∧ b = q.2) → rL μ' a b c = rL μ a b c) (hR : ∀ a b c, ¬ (a = q.1 ∧ c = j ∧ b = q.2) → rR μ' a b c = rR μ a b c)
    (hlow : ∀ q : Nat, q < (eS E).heap.size → H1[q]? = (eS E).heap[q]?) (hf : sRf μ') : sW E μ' H1 := by
  refine sW_put hW h hP ?_ (fun a b c hab => hI a b c (fun z => pair_ne hab ⟨z.1, z.2.2⟩)) (fun a b c hab => hL a b c (fun z => pair_ne hab ⟨z.1, z.2.2⟩)) (fun a b c hab => hR a b c (fun z => pair_ne hab ⟨z.1, z.2.2⟩)) hlow hf
  rw [ent_o hn hq]
  rw [rng_set hv (f := fval E μ q.1 q.2)]
  intro m hm
  exact fval_ne E (hI _ _ _ (fun z => hm z.2.1)) (hL _ _ _ (fun z => hm z.2.1)) (hR _ _ _ (fun z => hm z.2.1))
theorem rng_at {N j : Nat} {f : Nat → Value} (h : j < N) : ((List.range N).map f)[j]? = some (f j) := by
  rw [List.getElem?_map, List.getElem?_range h]
  rfl
theorem kft_lt {k s : Nat} (h : ¬ kft k s = 9) : s < 60 := by
  rcases Nat.lt_or_ge s 60 with q | q
  · exact q
  · exact absurd (kft_big k s q) h
theorem kFL_any {own k ci sl : Nat} (h : kFL.any (fun r => r.2.1 == own && (r.2.2.1 == k && (r.2.2.2.1 == ci && r.2.2.2.2 == sl))) = true) : Cond.fieldLink (kRn own) k (kRn ci) (kTt ci sl).2.1 (kTt ci sl).2.2.1 ∈ sT ∧ ci < 13 ∧ sl < knf (ci + 1) := by
  obtain ⟨r, hr, h1⟩ := List.any_eq_true.mp h
  simp only [Bool.and_eq_true, beq_iff_eq] at h1
  obtain ⟨a1, a2, a3, a4⟩ := h1
  have h2 := kFLok r hr
  rw [a1, a2, a3, a4] at h2
  exact ⟨sT_in h2.1 rfl, h2.2⟩
