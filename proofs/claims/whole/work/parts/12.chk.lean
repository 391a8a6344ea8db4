/-! 12: steps under a test -/
abbrev irm (x y : Int32) : Int32 := x - x / y * y
abbrev lrm (x y : Int64) : Int64 := x - x / y * y
abbrev isr (x y : Int32) : Int32 := x >>> (y &&& 31)
abbrev isl (x y : Int32) : Int32 := x <<< (y &&& 31)
abbrev lsl (x : Int64) (y : Int32) : Int64 := x <<< (y.toInt64 &&& 63)
def fuN : Nat := 4000000
section K12
variable {own : Nat} {cc : ByteArray} {nL d : Nat} {bl : Bool} {pc : Nat} {lo : sL} {t : List sV} {μ : sM} {o : Option (Option sV × sM)} {β : Type} {k a n j : Nat} {i : Int32}
theorem bk_of {ins : Instr} (hd : decode cc pc = .ok (ins, iln ins)) (ha : aux own (ins, 0, 0, 0, 0) = true) : bk1 cc own pc (ins, 0, 0, 0, 0) = true := by
  unfold bk1
  rw [Bool.and_eq_true]
  exact ⟨decide_eq_true hd, ha⟩
theorem h_ial (hi : inb i n = true) (hk : kar k = 1) (hn : kln k = n) (hj : i.toNatClampNeg = j) : e_iald 1 lo (.inl i :: .inr (.inr (k, a)) :: t) μ = some (lo, .inl (rI μ k a j) :: t, μ) := by
  subst hj
  subst hn
  unfold e_iald
  simp only []
  rw [if_pos hk, if_pos hi]
theorem sC_ial (hd : decode cc pc = .ok (.iaload, 1)) (hi : inb i n = true) (hk : kar k = 1) (hn : kln k = n) (hj : i.toNatClampNeg = j) (K : sOk own cc nL d bl (pc + 1) lo (.inl (rI μ k a j) :: t) μ o) : sOk own cc nL d bl pc lo (.inl i :: .inr (.inr (k, a)) :: t) μ o :=
  s1 (q := (.iaload, 0, 0, 0, 0)) (bk_of hd rfl) (h_ial hi hk hn hj) K
theorem sS_ial (g : Option β → Option (Option sV × sM)) (hg : g none = none) {z : Option β} (hd : decode cc pc = .ok (.iaload, 1)) (hk : kar k = 1) (hn : kln k = n) (hj : i.toNatClampNeg = j) (K : inb i n = true → sOk own cc nL d bl (pc + 1) lo (.inl (rI μ k a j) :: t) μ (g z)) : sOk own cc nL d bl pc lo (.inl i :: .inr (.inr (k, a)) :: t) μ (g (if inb i n = true then z else none)) :=
  sCk g hg (fun hi => sC_ial hd hi hk hn hj (K hi))
theorem h_bal (hi : inb i n = true) (hk : kar k = 3) (hn : kln k = n) (hj : i.toNatClampNeg = j) : e_iald 3 lo (.inl i :: .inr (.inr (k, a)) :: t) μ = some (lo, .inl (rI μ k a j) :: t, μ) := by
  subst hj
  subst hn
  unfold e_iald
  simp only []
  rw [if_pos hk, if_pos hi]
theorem sC_bal (hd : decode cc pc = .ok (.baload, 1)) (hi : inb i n = true) (hk : kar k = 3) (hn : kln k = n) (hj : i.toNatClampNeg = j) (K : sOk own cc nL d bl (pc + 1) lo (.inl (rI μ k a j) :: t) μ o) : sOk own cc nL d bl pc lo (.inl i :: .inr (.inr (k, a)) :: t) μ o :=
  s1 (q := (.baload, 0, 0, 0, 0)) (bk_of hd rfl) (h_bal hi hk hn hj) K
theorem sS_bal (g : Option β → Option (Option sV × sM)) (hg : g none = none) {z : Option β} (hd : decode cc pc = .ok (.baload, 1)) (hk : kar k = 3) (hn : kln k = n) (hj : i.toNatClampNeg = j) (K : inb i n = true → sOk own cc nL d bl (pc + 1) lo (.inl (rI μ k a j) :: t) μ (g z)) : sOk own cc nL d bl pc lo (.inl i :: .inr (.inr (k, a)) :: t) μ (g (if inb i n = true then z else none)) :=
  sCk g hg (fun hi => sC_bal hd hi hk hn hj (K hi))
theorem h_lal (hi : inb i n = true) (hk : kar k = 2) (hn : kln k = n) (hj : i.toNatClampNeg = j) : e_lald lo (.inl i :: .inr (.inr (k, a)) :: t) μ = some (lo, .inr (.inl (rL μ k a j)) :: t, μ) := by
  subst hj
  subst hn
  unfold e_lald
  simp only []
  rw [if_pos hk, if_pos hi]
theorem sC_lal (hd : decode cc pc = .ok (.laload, 1)) (hi : inb i n = true) (hk : kar k = 2) (hn : kln k = n) (hj : i.toNatClampNeg = j) (K : sOk own cc nL d bl (pc + 1) lo (.inr (.inl (rL μ k a j)) :: t) μ o) : sOk own cc nL d bl pc lo (.inl i :: .inr (.inr (k, a)) :: t) μ o :=
  s1 (q := (.laload, 0, 0, 0, 0)) (bk_of hd rfl) (h_lal hi hk hn hj) K
theorem sS_lal (g : Option β → Option (Option sV × sM)) (hg : g none = none) {z : Option β} (hd : decode cc pc = .ok (.laload, 1)) (hk : kar k = 2) (hn : kln k = n) (hj : i.toNatClampNeg = j) (K : inb i n = true → sOk own cc nL d bl (pc + 1) lo (.inr (.inl (rL μ k a j)) :: t) μ (g z)) : sOk own cc nL d bl pc lo (.inl i :: .inr (.inr (k, a)) :: t) μ (g (if inb i n = true then z else none)) :=
  sCk g hg (fun hi => sC_lal hd hi hk hn hj (K hi))
theorem h_aal (hi : inb i n = true) (hk : kar k = 4) (hn : kln k = n) (hj : i.toNatClampNeg = j) : e_aald lo (.inl i :: .inr (.inr (k, a)) :: t) μ = some (lo, .inr (.inr ((kae k).1, (kae k).2 + j)) :: t, μ) := by
  subst hj
  subst hn
  unfold e_aald
  simp only []
  rw [if_pos hk, if_pos hi]
theorem sC_aal (hd : decode cc pc = .ok (.aaload, 1)) (hi : inb i n = true) (hk : kar k = 4) (hn : kln k = n) (hj : i.toNatClampNeg = j) (K : sOk own cc nL d bl (pc + 1) lo (.inr (.inr ((kae k).1, (kae k).2 + j)) :: t) μ o) : sOk own cc nL d bl pc lo (.inl i :: .inr (.inr (k, a)) :: t) μ o :=
  s1 (q := (.aaload, 0, 0, 0, 0)) (bk_of hd rfl) (h_aal hi hk hn hj) K
theorem sS_aal (g : Option β → Option (Option sV × sM)) (hg : g none = none) {z : Option β} (hd : decode cc pc = .ok (.aaload, 1)) (hk : kar k = 4) (hn : kln k = n) (hj : i.toNatClampNeg = j) (K : inb i n = true → sOk own cc nL d bl (pc + 1) lo (.inr (.inr ((kae k).1, (kae k).2 + j)) :: t) μ (g z)) : sOk own cc nL d bl pc lo (.inl i :: .inr (.inr (k, a)) :: t) μ (g (if inb i n = true then z else none)) :=
  sCk g hg (fun hi => sC_aal hd hi hk hn hj (K hi))
theorem h_ias {x : Int32} (hi : inb i n = true) (hk : kar k = 1) (hn : kln k = n) (hj : i.toNatClampNeg = j) : e_iast 1 (fun x => x) lo (.inl x :: .inl i :: .inr (.inr (k, a)) :: t) μ = some (lo, t, (wI μ k a j x)) := by
  subst hj
  subst hn
  unfold e_iast
  simp only []
  rw [if_pos hk, if_pos hi]
theorem sC_ias {x : Int32} (hd : decode cc pc = .ok (.iastore, 1)) (hi : inb i n = true) (hk : kar k = 1) (hn : kln k = n) (hj : i.toNatClampNeg = j) (K : sOk own cc nL d bl (pc + 1) lo (t) (wI μ k a j x) o) : sOk own cc nL d bl pc lo (.inl x :: .inl i :: .inr (.inr (k, a)) :: t) μ o :=
  s1 (q := (.iastore, 0, 0, 0, 0)) (bk_of hd rfl) (h_ias hi hk hn hj) K
theorem sS_ias {x : Int32} (g : Option β → Option (Option sV × sM)) (hg : g none = none) {z : Option β} (hd : decode cc pc = .ok (.iastore, 1)) (hk : kar k = 1) (hn : kln k = n) (hj : i.toNatClampNeg = j) (K : inb i n = true → sOk own cc nL d bl (pc + 1) lo (t) (wI μ k a j x) (g z)) : sOk own cc nL d bl pc lo (.inl x :: .inl i :: .inr (.inr (k, a)) :: t) μ (g (if inb i n = true then z else none)) :=
  sCk g hg (fun hi => sC_ias hd hi hk hn hj (K hi))
theorem h_bas {x : Int32} (hi : inb i n = true) (hk : kar k = 3) (hn : kln k = n) (hj : i.toNatClampNeg = j) : e_iast 3 (fun x => x.toInt8.toInt32) lo (.inl x :: .inl i :: .inr (.inr (k, a)) :: t) μ = some (lo, t, (wI μ k a j x.toInt8.toInt32)) := by
  subst hj
  subst hn
  unfold e_iast
  simp only []
  rw [if_pos hk, if_pos hi]
theorem sC_bas {x : Int32} (hd : decode cc pc = .ok (.bastore, 1)) (hi : inb i n = true) (hk : kar k = 3) (hn : kln k = n) (hj : i.toNatClampNeg = j) (K : sOk own cc nL d bl (pc + 1) lo (t) (wI μ k a j x.toInt8.toInt32) o) : sOk own cc nL d bl pc lo (.inl x :: .inl i :: .inr (.inr (k, a)) :: t) μ o :=
  s1 (q := (.bastore, 0, 0, 0, 0)) (bk_of hd rfl) (h_bas hi hk hn hj) K
theorem sS_bas {x : Int32} (g : Option β → Option (Option sV × sM)) (hg : g none = none) {z : Option β} (hd : decode cc pc = .ok (.bastore, 1)) (hk : kar k = 3) (hn : kln k = n) (hj : i.toNatClampNeg = j) (K : inb i n = true → sOk own cc nL d bl (pc + 1) lo (t) (wI μ k a j x.toInt8.toInt32) (g z)) : sOk own cc nL d bl pc lo (.inl x :: .inl i :: .inr (.inr (k, a)) :: t) μ (g (if inb i n = true then z else none)) :=
  sCk g hg (fun hi => sC_bas hd hi hk hn hj (K hi))
theorem h_las {x : Int64} (hi : inb i n = true) (hk : kar k = 2) (hn : kln k = n) (hj : i.toNatClampNeg = j) : e_last lo (.inr (.inl x) :: .inl i :: .inr (.inr (k, a)) :: t) μ = some (lo, t, (wL μ k a j x)) := by
  subst hj
  subst hn
  unfold e_last
  simp only []
  rw [if_pos hk, if_pos hi]
theorem sC_las {x : Int64} (hd : decode cc pc = .ok (.lastore, 1)) (hi : inb i n = true) (hk : kar k = 2) (hn : kln k = n) (hj : i.toNatClampNeg = j) (K : sOk own cc nL d bl (pc + 1) lo (t) (wL μ k a j x) o) : sOk own cc nL d bl pc lo (.inr (.inl x) :: .inl i :: .inr (.inr (k, a)) :: t) μ o :=
  s1 (q := (.lastore, 0, 0, 0, 0)) (bk_of hd rfl) (h_las hi hk hn hj) K
theorem sS_las {x : Int64} (g : Option β → Option (Option sV × sM)) (hg : g none = none) {z : Option β} (hd : decode cc pc = .ok (.lastore, 1)) (hk : kar k = 2) (hn : kln k = n) (hj : i.toNatClampNeg = j) (K : inb i n = true → sOk own cc nL d bl (pc + 1) lo (t) (wL μ k a j x) (g z)) : sOk own cc nL d bl pc lo (.inr (.inl x) :: .inl i :: .inr (.inr (k, a)) :: t) μ (g (if inb i n = true then z else none)) :=
  sCk g hg (fun hi => sC_las hd hi hk hn hj (K hi))
theorem sC_idv {x y : Int32} (hd : decode cc pc = .ok (.idiv, 1)) (hy : ¬ y = 0) (K : sOk own cc nL d bl (pc + 1) lo (.inl (x / y) :: t) μ o) : sOk own cc nL d bl pc lo (.inl y :: .inl x :: t) μ o :=
  s1 (q := (.idiv, 0, 0, 0, 0)) (bk_of hd rfl) (if_neg hy) K
theorem sS_idv {x y : Int32} (g : Option β → Option (Option sV × sM)) (hg : g none = none) {z : Option β} (hd : decode cc pc = .ok (.idiv, 1)) (K : ¬ y = 0 → sOk own cc nL d bl (pc + 1) lo (.inl (x / y) :: t) μ (g z)) : sOk own cc nL d bl pc lo (.inl y :: .inl x :: t) μ (g (if y = 0 then none else z)) :=
  sCn g hg (fun hy => sC_idv hd hy (K hy))
theorem sC_irm {x y : Int32} (hd : decode cc pc = .ok (.irem, 1)) (hy : ¬ y = 0) (K : sOk own cc nL d bl (pc + 1) lo (.inl (irm x y) :: t) μ o) : sOk own cc nL d bl pc lo (.inl y :: .inl x :: t) μ o :=
  s1 (q := (.irem, 0, 0, 0, 0)) (bk_of hd rfl) (if_neg hy) K
theorem sS_irm {x y : Int32} (g : Option β → Option (Option sV × sM)) (hg : g none = none) {z : Option β} (hd : decode cc pc = .ok (.irem, 1)) (K : ¬ y = 0 → sOk own cc nL d bl (pc + 1) lo (.inl (irm x y) :: t) μ (g z)) : sOk own cc nL d bl pc lo (.inl y :: .inl x :: t) μ (g (if y = 0 then none else z)) :=
  sCn g hg (fun hy => sC_irm hd hy (K hy))
theorem sC_ldv {x y : Int64} (hd : decode cc pc = .ok (.ldiv, 1)) (hy : ¬ y = 0) (K : sOk own cc nL d bl (pc + 1) lo (.inr (.inl (x / y)) :: t) μ o) : sOk own cc nL d bl pc lo (.inr (.inl y) :: .inr (.inl x) :: t) μ o :=
  s1 (q := (.ldiv, 0, 0, 0, 0)) (bk_of hd rfl) (if_neg hy) K
theorem sS_ldv {x y : Int64} (g : Option β → Option (Option sV × sM)) (hg : g none = none) {z : Option β} (hd : decode cc pc = .ok (.ldiv, 1)) (K : ¬ y = 0 → sOk own cc nL d bl (pc + 1) lo (.inr (.inl (x / y)) :: t) μ (g z)) : sOk own cc nL d bl pc lo (.inr (.inl y) :: .inr (.inl x) :: t) μ (g (if y = 0 then none else z)) :=
  sCn g hg (fun hy => sC_ldv hd hy (K hy))
theorem sC_lrm {x y : Int64} (hd : decode cc pc = .ok (.lrem, 1)) (hy : ¬ y = 0) (K : sOk own cc nL d bl (pc + 1) lo (.inr (.inl (lrm x y)) :: t) μ o) : sOk own cc nL d bl pc lo (.inr (.inl y) :: .inr (.inl x) :: t) μ o :=
  s1 (q := (.lrem, 0, 0, 0, 0)) (bk_of hd rfl) (if_neg hy) K
theorem sS_lrm {x y : Int64} (g : Option β → Option (Option sV × sM)) (hg : g none = none) {z : Option β} (hd : decode cc pc = .ok (.lrem, 1)) (K : ¬ y = 0 → sOk own cc nL d bl (pc + 1) lo (.inr (.inl (lrm x y)) :: t) μ (g z)) : sOk own cc nL d bl pc lo (.inr (.inl y) :: .inr (.inl x) :: t) μ (g (if y = 0 then none else z)) :=
  sCn g hg (fun hy => sC_lrm hd hy (K hy))
/-- a truth value put into a field -/
theorem sS_pz {x : Int32} {idx ci sl : Nat} (g : Option β → Option (Option sV × sM)) (hg : g none = none) {z : Option β} (hb : bk1 cc own pc (.putfield idx, ci, sl, 0, 0) = true) (hk : k = ci + 1) (hf : kft k sl = 4) (K : x = 0 ∨ x = 1 → sOk own cc nL d bl (pc + 3) lo t (wI μ k a sl x) (g z)) : sOk own cc nL d bl pc lo (.inl x :: .inr (.inr (k, a)) :: t) μ (g (if x = 0 ∨ x = 1 then z else none)) :=
  sCk g hg (fun h => s1 (q := (.putfield idx, ci, sl, 0, 0)) hb (by
    show e_put ci sl lo (.inl x :: .inr (.inr (k, a)) :: t) μ = some (lo, t, wI μ k a sl x)
    unfold e_put
    simp only []
    rw [if_pos hk, hf]
    exact if_pos h) (K h))
end K12
