/-! 03: the plain machine's memory, values, and the world that they picture -/
abbrev sV : Type := Int32 ⊕ Int64 ⊕ (Nat × Nat)
abbrev sM : Type := (Nat → Nat → Nat → Int32) × (Nat → Nat → Nat → Int64) × (Nat → Nat → Nat → Nat)
abbrev vi (x : Int32) : sV := Sum.inl x
abbrev vl (x : Int64) : sV := Sum.inr (Sum.inl x)
abbrev vr (k i : Nat) : sV := Sum.inr (Sum.inr (k, i))
def rI (μ : sM) (k i j : Nat) : Int32 := μ.1 k i j
def rL (μ : sM) (k i j : Nat) : Int64 := μ.2.1 k i j
def rR (μ : sM) (k i j : Nat) : Nat := μ.2.2 k i j
def wI (μ : sM) (k i j : Nat) (v : Int32) : sM := (fun a b c => if a = k ∧ c = j ∧ b = i then v else μ.1 a b c, μ.2)
def wL (μ : sM) (k i j : Nat) (v : Int64) : sM := (μ.1, fun a b c => if a = k ∧ c = j ∧ b = i then v else μ.2.1 a b c, μ.2.2)
def wR (μ : sM) (k i j : Nat) (v : Nat) : sM := (μ.1, μ.2.1, fun a b c => if a = k ∧ c = j ∧ b = i then v else μ.2.2 a b c)
/-- n ints (longs) of the array (k, i) from sp on, into (k', i') from dp on -/
def cI (μ : sM) (k i sp k' i' dp n : Nat) : sM := (fun a b c => if a = k' ∧ b = i' ∧ dp ≤ c ∧ c < dp + n then μ.1 k i (sp + (c - dp)) else μ.1 a b c, μ.2)
def cL (μ : sM) (k i sp k' i' dp n : Nat) : sM := (μ.1, fun a b c => if a = k' ∧ b = i' ∧ dp ≤ c ∧ c < dp + n then μ.2.1 k i (sp + (c - dp)) else μ.2.1 a b c, μ.2.2)
abbrev ix (i : Int32) : Nat := i.toNatClampNeg
def inb (i : Int32) (n : Nat) : Bool := !(decide (i < 0) || decide (n ≤ i.toNatClampNeg))
theorem inb_in {i : Int32} {n : Nat} (h : inb i n = true) : vp_in i n := by
  unfold inb at h
  unfold vp_in
  simpa using h
def kof (k i : Nat) : Nat := kLV.idxOf (k, i)
/-- the law's start, the script's cell and length, the classes' numbers, the array classes, the words' String and its bytes -/
abbrev sE : Type := State × Nat × Nat × va_G × (Nat → ClassId) × Nat × Nat
def eS (E : sE) : State := E.1
def eB (E : sE) : Nat := E.2.1
def eL (E : sE) : Nat := E.2.2.1
def eD (E : sE) : va_G := E.2.2.2.1
def eT (E : sE) : Nat → ClassId := E.2.2.2.2.1
def eW (E : sE) : Nat := E.2.2.2.2.2.1
def eV (E : sE) : Nat := E.2.2.2.2.2.2
def sad (E : sE) (q : Nat × Nat) : Nat := if q.1 = 0 then (if q.2 = 0 then eB E else eW E) else (eS E).heap.size + kof q.1 q.2
def gm (E : sE) (v : sV) : Value := match v with
  | .inl x => .int x
  | .inr (.inl x) => .long x
  | .inr (.inr q) => .ref (sad E q)
def gl (E : sE) (q : Nat × sV) : Nat × Value := (q.1, gm E q.2)
/-- where a field that never changes leads -/
def kfd (k s i : Nat) : Nat × Nat := ((kfr k s).1, match (kfr k s).2 with
  | 0 => i
  | n + 1 => n)
def kat (k : Nat) : Nat := if k = 56 then 4 else if k = 39 then 5 else 3
def fval (E : sE) (μ : sM) (k i j : Nat) : Value := match kft k j with
  | 0 => .int (rI μ k i j)
  | 1 => .long (rL μ k i j)
  | 2 => .ref (sad E (kfd k j i))
  | 3 => (match rR μ k i j with
    | 0 => .null
    | n + 1 => .ref (sad E ((kfr k j).1, n)))
  | 4 => .int (rI μ k i j)
  | _ => .null
def ent (E : sE) (μ : sM) (q : Nat × Nat) : va_E := match kar q.1 with
  | 0 => .inr (q.1 - 1, (List.range (knf q.1)).map (fval E μ q.1 q.2))
  | 1 => .inl (eT E 0, kln q.1, .inl (rI μ q.1 q.2))
  | 2 => .inl (eT E 1, kln q.1, .inr (.inl (rL μ q.1 q.2)))
  | 3 => .inl (eT E 2, kln q.1, .inl (rI μ q.1 q.2))
  | _ => .inl (eT E (kat q.1), kln q.1, .inr (.inr (.inr (.inr (fun j => some (sad E ((kae q.1).1, (kae q.1).2 + j)))))))
def tys (E : sE) : List (ClassId × FieldType) := [(eT E 0, .int), (eT E 1, .long), (eT E 2, .byte), (eT E 3, .object "ClockRiver$River"), (eT E 4, .object "ClockRiver$Weeks"), (eT E 5, .array .long)]
def wld (E : sE) (μ : sM) : va_W := (List.range 258).map (fun n => ((eS E).heap.size + n, ent E μ (kLV.getD n (0, 0))))
def sA (E : sE) : Nat → Prop := fun q => (eS E).heap.size ≤ q
set_option maxRecDepth 100000 in
theorem kof_ok1 : ∀ k, k < 80 → ∀ i, i < kni k → kof k i < 258 ∧ kLV.getD (kof k i) (0, 0) = (k, i) := by decide +kernel
theorem kni_big (k : Nat) (h : 80 ≤ k) : kni k = 0 := by
  unfold kni
  split <;> first | omega | rfl
theorem kof_ok {k i : Nat} (h : i < kni k) : kof k i < 258 ∧ kLV.getD (kof k i) (0, 0) = (k, i) := by
  by_cases hk : k < 80
  · exact kof_ok1 k hk i h
  · rw [kni_big k (by omega)] at h
    omega
set_option maxRecDepth 100000 in
theorem kof_inv : ∀ n, n < 258 → kof (kLV.getD n (0, 0)).1 (kLV.getD n (0, 0)).2 = n := by decide +kernel
theorem kni_0 : kni 0 = 0 := rfl
theorem wld_at (E : sE) (μ : sM) {k i : Nat} (h : i < kni k) : (wld E μ)[kof k i]? = some ((eS E).heap.size + kof k i, ent E μ (k, i)) := by
  obtain ⟨h1, h2⟩ := kof_ok h
  unfold wld
  rw [List.getElem?_map, List.getElem?_range h1]
  simp only [Option.map_some, h2]
theorem wld_set (E : sE) {μ μ' : sM} {k i : Nat} (h : i < kni k) {e' : va_E} (he : ent E μ' (k, i) = e') (ho : ∀ q : Nat × Nat, q ≠ (k, i) → ent E μ' q = ent E μ q) :
    (wld E μ).set (kof k i) ((eS E).heap.size + kof k i, e') = wld E μ' := by
  obtain ⟨h1, h2⟩ := kof_ok h
  apply List.ext_getElem?
  intro n
  rw [List.getElem?_set]
  by_cases hn : kof k i = n
  · subst hn
    rw [if_pos rfl, wld_at E μ' h, he, if_pos (by unfold wld; simpa using h1)]
  · rw [if_neg hn]
    by_cases hl : n < 258
    · unfold wld
      rw [List.getElem?_map, List.getElem?_map, List.getElem?_range hl]
      simp only [Option.map_some]
      rw [ho]
      intro q
      exact hn (by rw [← kof_inv n hl, q])
    · have e1 : (wld E μ).length ≤ n := by unfold wld; simp; omega
      have e2 : (wld E μ').length ≤ n := by unfold wld; simp; omega
      rw [List.getElem?_eq_none e1, List.getElem?_eq_none e2]
theorem wld_D (E : sE) (μ : sM) : va_D (sA E) (wld E μ) := by
  have key : ∀ (n : Nat) (q : Nat × va_E), (wld E μ)[n]? = some q → q.1 = (eS E).heap.size + n := by
    intro n q h
    unfold wld at h
    rw [List.getElem?_map] at h
    cases hr : (List.range 258)[n]? with
    | none => rw [hr] at h; cases h
    | some z =>
      rw [hr] at h
      have hz : n < 258 := by
        have := (List.getElem?_eq_some_iff.mp hr).1
        simpa using this
      rw [List.getElem?_range hz] at hr
      cases hr
      cases h
      rfl
  refine ⟨fun i j a b hi hj hab => ?_, fun n q h => ?_⟩
  · have := key i a hi
    have := key j b hj
    omega
  · show (eS E).heap.size ≤ q.1
    rw [key n q h]
    omega
/-- references in the memory that may change lead to cells that are there -/
def sRf (μ : sM) : Prop := ∀ k i j n : Nat, kft k j = 3 → rR μ k i j = n + 1 → n < kni (kfr k j).1
def sW (E : sE) (μ : sM) (H : Heap) : Prop := va_P (eD E) vwCl (wld E μ) H ∧ (va_X (eB E) (eL E) (rI μ 0 0) (eS E) (eS E).heap ∧ rI μ 0 1 0 = Int32.ofNat (eL E)) ∧ (∀ q : Nat, q < (eS E).heap.size → H[q]? = (eS E).heap[q]?) ∧ sRf μ
def slv (v : sV) : Prop := match v with
  | .inr (.inr q) => q.2 < kni q.1 ∨ q.1 = 0
  | _ => True
theorem rng_set {N j : Nat} {f f' : Nat → Value} {v : Value} (hv : f' j = v) (ho : ∀ n, n ≠ j → f' n = f n) : (List.range N).map f' = ((List.range N).map f).set j v := by
  apply List.ext_getElem?
  intro n
  rw [List.getElem?_set]
  by_cases hl : n < N
  · by_cases hn : j = n
    · subst hn
      simp [hl, hv]
    · rw [if_neg hn, List.getElem?_map, List.getElem?_map, List.getElem?_range hl]
      simp only [Option.map_some]
      rw [ho n (fun q => hn q.symm)]
  · by_cases hn : j = n
    · subst hn
      simp [hl]
    · simp [hl, hn]
theorem fval_ne (E : sE) {μ μ' : sM} {k i j : Nat} (h1 : rI μ' k i j = rI μ k i j) (h2 : rL μ' k i j = rL μ k i j) (h3 : rR μ' k i j = rR μ k i j) : fval E μ' k i j = fval E μ k i j := by
  unfold fval
  rw [h1, h2, h3]
theorem ent_ne (E : sE) {μ μ' : sM} {q : Nat × Nat} (h1 : ∀ j, rI μ' q.1 q.2 j = rI μ q.1 q.2 j) (h2 : ∀ j, rL μ' q.1 q.2 j = rL μ q.1 q.2 j) (h3 : ∀ j, rR μ' q.1 q.2 j = rR μ q.1 q.2 j) : ent E μ' q = ent E μ q := by
  have e0 : fval E μ' q.1 q.2 = fval E μ q.1 q.2 := funext fun j => fval_ne E (h1 j) (h2 j) (h3 j)
  have e1 : rI μ' q.1 q.2 = rI μ q.1 q.2 := funext h1
  have e2 : rL μ' q.1 q.2 = rL μ q.1 q.2 := funext h2
  unfold ent
  rw [e0, e1, e2]
/-! the memory's laws -/
theorem rI_wI (μ : sM) (k i j : Nat) (v : Int32) (a b c : Nat) : rI (wI μ k i j v) a b c = if a = k ∧ c = j ∧ b = i then v else rI μ a b c := rfl
theorem rL_wI (μ : sM) (k i j : Nat) (v : Int32) (a b c : Nat) : rL (wI μ k i j v) a b c = rL μ a b c := rfl
theorem rR_wI (μ : sM) (k i j : Nat) (v : Int32) (a b c : Nat) : rR (wI μ k i j v) a b c = rR μ a b c := rfl
theorem rI_wL (μ : sM) (k i j : Nat) (v : Int64) (a b c : Nat) : rI (wL μ k i j v) a b c = rI μ a b c := rfl
theorem rL_wL (μ : sM) (k i j : Nat) (v : Int64) (a b c : Nat) : rL (wL μ k i j v) a b c = if a = k ∧ c = j ∧ b = i then v else rL μ a b c := rfl
theorem rR_wL (μ : sM) (k i j : Nat) (v : Int64) (a b c : Nat) : rR (wL μ k i j v) a b c = rR μ a b c := rfl
theorem rI_wR (μ : sM) (k i j : Nat) (v : Nat) (a b c : Nat) : rI (wR μ k i j v) a b c = rI μ a b c := rfl
theorem rL_wR (μ : sM) (k i j : Nat) (v : Nat) (a b c : Nat) : rL (wR μ k i j v) a b c = rL μ a b c := rfl
theorem rR_wR (μ : sM) (k i j : Nat) (v : Nat) (a b c : Nat) : rR (wR μ k i j v) a b c = if a = k ∧ c = j ∧ b = i then v else rR μ a b c := rfl
theorem rI_cI (μ : sM) (k i sp k' i' dp n a b c : Nat) : rI (cI μ k i sp k' i' dp n) a b c = if a = k' ∧ b = i' ∧ dp ≤ c ∧ c < dp + n then rI μ k i (sp + (c - dp)) else rI μ a b c := rfl
theorem rL_cI (μ : sM) (k i sp k' i' dp n a b c : Nat) : rL (cI μ k i sp k' i' dp n) a b c = rL μ a b c := rfl
theorem rR_cI (μ : sM) (k i sp k' i' dp n a b c : Nat) : rR (cI μ k i sp k' i' dp n) a b c = rR μ a b c := rfl
theorem rI_cL (μ : sM) (k i sp k' i' dp n a b c : Nat) : rI (cL μ k i sp k' i' dp n) a b c = rI μ a b c := rfl
theorem rL_cL (μ : sM) (k i sp k' i' dp n a b c : Nat) : rL (cL μ k i sp k' i' dp n) a b c = if a = k' ∧ b = i' ∧ dp ≤ c ∧ c < dp + n then rL μ k i (sp + (c - dp)) else rL μ a b c := rfl
theorem rR_cL (μ : sM) (k i sp k' i' dp n a b c : Nat) : rR (cL μ k i sp k' i' dp n) a b c = rR μ a b c := rfl
theorem pair_ne {k i a b : Nat} (h : (a, b) ≠ (k, i)) : ¬ (a = k ∧ b = i) := fun q => h (by rw [q.1, q.2])
/-- the world behind a change of one cell -/
theorem sW_put {E : sE} {μ μ' : sM} {H H1 : Heap} {k i : Nat} {e' : va_E} (hW : sW E μ H) (h : i < kni k) (hP : va_P (eD E) vwCl ((wld E μ).set (kof k i) ((eS E).heap.size + kof k i, e')) H1) (he : ent E μ' (k, i) = e')
    (hI : ∀ a b c, (a, b) ≠ (k, i) → rI μ' a b c = rI μ a b c) (hL : ∀ a b c, (a, b) ≠ (k, i) → rL μ' a b c = rL μ a b c) (hR : ∀ a b c, (a, b) ≠ (k, i) → rR μ' a b c = rR μ a b c)
    (hlow : ∀ q : Nat, q < (eS E).heap.size → H1[q]? = (eS E).heap[q]?) (hf : sRf μ') : sW E μ' H1 := by
  refine ⟨?_, ?_, hlow, hf⟩
  · rw [← wld_set E h he (fun q hq => ent_ne E (fun j => hI _ _ j hq) (fun j => hL _ _ j hq) (fun j => hR _ _ j hq))]
    exact hP
  · have e0 : rI μ' 0 0 = rI μ 0 0 := funext fun j => hI 0 0 j (fun q => by cases q; exact absurd h (by rw [kni_0]; omega))
    have e1 : rI μ' 0 1 0 = rI μ 0 1 0 := hI 0 1 0 (fun q => by cases q; exact absurd h (by rw [kni_0]; omega))
    rw [e0, e1]
    exact hW.2.1
