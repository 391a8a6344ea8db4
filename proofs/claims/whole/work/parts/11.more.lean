/-! 11: calls by what they answer; references that change; copies; the script -/
def bI {β : Type} (f : Option (Int32 × sM)) (k : Int32 → sM → Option β) : Option β := match f with
  | some (x, ρ) => k x ρ
  | none => none
def bL {β : Type} (f : Option (Int64 × sM)) (k : Int64 → sM → Option β) : Option β := match f with
  | some (x, ρ) => k x ρ
  | none => none
def bA {β : Type} (f : Option (Nat × sM)) (k : Nat → sM → Option β) : Option β := match f with
  | some (x, ρ) => k x ρ
  | none => none
def bV {β : Type} (f : Option sM) (k : sM → Option β) : Option β := match f with
  | some ρ => k ρ
  | none => none
section M11
variable {own : Nat} {cc : ByteArray} {nL d : Nat} {bl : Bool} {pc : Nat} {lo : sL} {st rest : List sV} {μ : sM} {o : Option (Option sV × sM)}
variable {y : MethodName} {cc' : ByteArray} {nL' d' n idx : Nat} {ret : Option FieldType} {avs : List sV} {β : Type}
variable {q : Nat × Nat} {ci : Nat}
theorem sCvI (g : Option β → Option (Option sV × sM)) (hg : g none = none) {f : Option (Int32 × sM)} {kk : Int32 → sM → Option β} (hM : sMt y cc' nL' ret d' (.inr (.inr q) :: avs) μ (oI f)) (hd' : d' + 1 ≤ d) (hdec : decode cc pc = .ok (.invokevirtual idx, 3)) (hlink : Cond.methodLink (kRn own) idx y ∈ sT) (hy : yV y cc' nL' ret n) (hn : avs.length = n) (hci : ci < 13) (hq : q.1 = ci + 1) (hyc : kRn ci = y.cls) (hst : st = avs.reverse ++ .inr (.inr q) :: rest) (hrm : scat rest ≤ 8)
    (k : ∀ (x : Int32) (ρ : sM), sOk own cc nL d bl (pc + 3) lo (.inl x :: rest) ρ (g (kk x ρ))) : sOk own cc nL d bl pc lo st μ (g (bI f kk)) := by
  cases f with
  | none =>
    show sOk own cc nL d bl pc lo st μ (g none)
    rw [hg]
    exact sNo
  | some z =>
    obtain ⟨x, ρ⟩ := z
    exact sCvb (r' := some (.inl x)) (ρ' := ρ) hM hd' hdec hlink hy hn hci hq hyc hst hrm (k x ρ)
theorem sCvL (g : Option β → Option (Option sV × sM)) (hg : g none = none) {f : Option (Int64 × sM)} {kk : Int64 → sM → Option β} (hM : sMt y cc' nL' ret d' (.inr (.inr q) :: avs) μ (oL f)) (hd' : d' + 1 ≤ d) (hdec : decode cc pc = .ok (.invokevirtual idx, 3)) (hlink : Cond.methodLink (kRn own) idx y ∈ sT) (hy : yV y cc' nL' ret n) (hn : avs.length = n) (hci : ci < 13) (hq : q.1 = ci + 1) (hyc : kRn ci = y.cls) (hst : st = avs.reverse ++ .inr (.inr q) :: rest) (hrm : scat rest ≤ 8)
    (k : ∀ (x : Int64) (ρ : sM), sOk own cc nL d bl (pc + 3) lo (.inr (.inl x) :: rest) ρ (g (kk x ρ))) : sOk own cc nL d bl pc lo st μ (g (bL f kk)) := by
  cases f with
  | none =>
    show sOk own cc nL d bl pc lo st μ (g none)
    rw [hg]
    exact sNo
  | some z =>
    obtain ⟨x, ρ⟩ := z
    exact sCvb (r' := some (.inr (.inl x))) (ρ' := ρ) hM hd' hdec hlink hy hn hci hq hyc hst hrm (k x ρ)
theorem sCvV (g : Option β → Option (Option sV × sM)) (hg : g none = none) {f : Option sM} {kk : sM → Option β} (hM : sMt y cc' nL' ret d' (.inr (.inr q) :: avs) μ (oV f)) (hd' : d' + 1 ≤ d) (hdec : decode cc pc = .ok (.invokevirtual idx, 3)) (hlink : Cond.methodLink (kRn own) idx y ∈ sT) (hy : yV y cc' nL' ret n) (hn : avs.length = n) (hci : ci < 13) (hq : q.1 = ci + 1) (hyc : kRn ci = y.cls) (hst : st = avs.reverse ++ .inr (.inr q) :: rest) (hrm : scat rest ≤ 8)
    (k : ∀ (ρ : sM), sOk own cc nL d bl (pc + 3) lo (rest) ρ (g (kk ρ))) : sOk own cc nL d bl pc lo st μ (g (bV f kk)) := by
  cases f with
  | none =>
    show sOk own cc nL d bl pc lo st μ (g none)
    rw [hg]
    exact sNo
  | some z =>
    exact sCvb (r' := none) (ρ' := z) hM hd' hdec hlink hy hn hci hq hyc hst hrm (k z)
theorem sCvA {kd : Nat} (g : Option β → Option (Option sV × sM)) (hg : g none = none) {f : Option (Nat × sM)} {kk : Nat → sM → Option β} (hM : sMt y cc' nL' ret d' (.inr (.inr q) :: avs) μ (oA kd f)) (hd' : d' + 1 ≤ d) (hdec : decode cc pc = .ok (.invokevirtual idx, 3)) (hlink : Cond.methodLink (kRn own) idx y ∈ sT) (hy : yV y cc' nL' ret n) (hn : avs.length = n) (hci : ci < 13) (hq : q.1 = ci + 1) (hyc : kRn ci = y.cls) (hst : st = avs.reverse ++ .inr (.inr q) :: rest) (hrm : scat rest ≤ 8)
    (k : ∀ (x : Nat) (ρ : sM), sOk own cc nL d bl (pc + 3) lo (.inr (.inr (kd, x)) :: rest) ρ (g (kk x ρ))) : sOk own cc nL d bl pc lo st μ (g (bA f kk)) := by
  cases f with
  | none =>
    show sOk own cc nL d bl pc lo st μ (g none)
    rw [hg]
    exact sNo
  | some z =>
    obtain ⟨x, ρ⟩ := z
    exact sCvb (r' := some (.inr (.inr (kd, x)))) (ρ' := ρ) hM hd' hdec hlink hy hn hci hq hyc hst hrm (k x ρ)
theorem sCsI (g : Option β → Option (Option sV × sM)) (hg : g none = none) {f : Option (Int32 × sM)} {kk : Int32 → sM → Option β} (hM : sMt y cc' nL' ret d' avs μ (oI f)) (hd' : d' + 1 ≤ d) (hdec : decode cc pc = .ok (.invokestatic idx, 3)) (hlink : Cond.methodLink (kRn own) idx y ∈ sT) (hy : yS y cc' nL' ret n) (hn : avs.length = n) (hst : st = avs.reverse ++ rest) (hrm : scat rest ≤ 8)
    (k : ∀ (x : Int32) (ρ : sM), sOk own cc nL d bl (pc + 3) lo (.inl x :: rest) ρ (g (kk x ρ))) : sOk own cc nL d bl pc lo st μ (g (bI f kk)) := by
  cases f with
  | none =>
    show sOk own cc nL d bl pc lo st μ (g none)
    rw [hg]
    exact sNo
  | some z =>
    obtain ⟨x, ρ⟩ := z
    exact sCsb (r' := some (.inl x)) (ρ' := ρ) hM hd' hdec hlink hy hn hst hrm (k x ρ)
theorem sCsL (g : Option β → Option (Option sV × sM)) (hg : g none = none) {f : Option (Int64 × sM)} {kk : Int64 → sM → Option β} (hM : sMt y cc' nL' ret d' avs μ (oL f)) (hd' : d' + 1 ≤ d) (hdec : decode cc pc = .ok (.invokestatic idx, 3)) (hlink : Cond.methodLink (kRn own) idx y ∈ sT) (hy : yS y cc' nL' ret n) (hn : avs.length = n) (hst : st = avs.reverse ++ rest) (hrm : scat rest ≤ 8)
    (k : ∀ (x : Int64) (ρ : sM), sOk own cc nL d bl (pc + 3) lo (.inr (.inl x) :: rest) ρ (g (kk x ρ))) : sOk own cc nL d bl pc lo st μ (g (bL f kk)) := by
  cases f with
  | none =>
    show sOk own cc nL d bl pc lo st μ (g none)
    rw [hg]
    exact sNo
  | some z =>
    obtain ⟨x, ρ⟩ := z
    exact sCsb (r' := some (.inr (.inl x))) (ρ' := ρ) hM hd' hdec hlink hy hn hst hrm (k x ρ)
theorem sCsV (g : Option β → Option (Option sV × sM)) (hg : g none = none) {f : Option sM} {kk : sM → Option β} (hM : sMt y cc' nL' ret d' avs μ (oV f)) (hd' : d' + 1 ≤ d) (hdec : decode cc pc = .ok (.invokestatic idx, 3)) (hlink : Cond.methodLink (kRn own) idx y ∈ sT) (hy : yS y cc' nL' ret n) (hn : avs.length = n) (hst : st = avs.reverse ++ rest) (hrm : scat rest ≤ 8)
    (k : ∀ (ρ : sM), sOk own cc nL d bl (pc + 3) lo (rest) ρ (g (kk ρ))) : sOk own cc nL d bl pc lo st μ (g (bV f kk)) := by
  cases f with
  | none =>
    show sOk own cc nL d bl pc lo st μ (g none)
    rw [hg]
    exact sNo
  | some z =>
    exact sCsb (r' := none) (ρ' := z) hM hd' hdec hlink hy hn hst hrm (k z)
theorem sCsA {kd : Nat} (g : Option β → Option (Option sV × sM)) (hg : g none = none) {f : Option (Nat × sM)} {kk : Nat → sM → Option β} (hM : sMt y cc' nL' ret d' avs μ (oA kd f)) (hd' : d' + 1 ≤ d) (hdec : decode cc pc = .ok (.invokestatic idx, 3)) (hlink : Cond.methodLink (kRn own) idx y ∈ sT) (hy : yS y cc' nL' ret n) (hn : avs.length = n) (hst : st = avs.reverse ++ rest) (hrm : scat rest ≤ 8)
    (k : ∀ (x : Nat) (ρ : sM), sOk own cc nL d bl (pc + 3) lo (.inr (.inr (kd, x)) :: rest) ρ (g (kk x ρ))) : sOk own cc nL d bl pc lo st μ (g (bA f kk)) := by
  cases f with
  | none =>
    show sOk own cc nL d bl pc lo st μ (g none)
    rw [hg]
    exact sNo
  | some z =>
    obtain ⟨x, ρ⟩ := z
    exact sCsb (r' := some (.inr (.inr (kd, x)))) (ρ' := ρ) hM hd' hdec hlink hy hn hst hrm (k x ρ)
/-- a reference that may change -/
theorem sGr {sl n : Nat} {t : List sV} (hb : bk1 cc own pc (.getfield idx, ci, sl, 0, 0) = true) (hq : q.1 = ci + 1) (hk : kft q.1 sl = 3) (hr : rR μ q.1 q.2 sl = n + 1) (k : sOk own cc nL d bl (pc + 3) lo (.inr (.inr ((kfr q.1 sl).1, n)) :: t) μ o) : sOk own cc nL d bl pc lo (.inr (.inr q) :: t) μ o := by
  intro r ρ ho E p l e R s m args below meth c cells slots Q G H locs ls A
  have K := k r ρ ho E p l e R s m args below meth c cells slots Q G
  obtain ⟨hE, ⟨hx, hcc, hml, hown, hts, hwm, hlow, hsz⟩, hR, -⟩ := G
  obtain ⟨hW, hS, hst, hlo, hls⟩ := A
  unfold bk1 at hb
  rw [Bool.and_eq_true] at hb
  obtain ⟨hd, ha⟩ := hb
  have hd := of_decide_eq_true hd
  obtain ⟨hlink, hn, hsl⟩ := kFL_any ha
  have hl : q.2 < kni q.1 := sl_ref (sl_head hst) (by omega)
  have hg : Value.ref (sad E ((kfr q.1 sl).1, n)) = fval E μ q.1 q.2 sl := by
    unfold fval
    rw [hk, hr]
    rfl
  have Kf := K H locs ls ⟨hW, hS, sl_cons (Or.inl (hW.2.2.2 q.1 q.2 sl n hk hr)) (sl_tail hst), hlo, hls⟩
  rw [List.map_cons, show gm E (.inr (.inr ((kfr q.1 sl).1, n))) = fval E μ q.1 q.2 sl from hg] at Kf
  exact va_get hx hcc hts (kU ci hn) hown (sK_at hE hwm) hW.1 (kof q.1 q.2) (cell_o hn hq hl) (kcl ci hn) sl hsl (hts _ hlink) (fun x h => by rw [(kfc ci hn sl hsl).1] at h; exact h) (rng_at hsl) hd Kf
/-! copies -/
def cpo (sp dp n : Int32) (l0 l1 : Nat) : Bool := decide (¬ sp < 0 ∧ ¬ dp < 0 ∧ ¬ n < 0 ∧ sp.toNatClampNeg + n.toNatClampNeg ≤ l0 ∧ dp.toNatClampNeg + n.toNatClampNeg ≤ l1)
def cpw (cc : ByteArray) (own pc idx p1 : Nat) : Bool := decide (decode cc pc = .ok (.invokestatic idx, 3)) && decide (lw_tbl[p1]? = some (Cond.methodLink (kRn own) idx arraycopyName))
theorem cp_nat : Cond.native arraycopyName ∈ sT := sT_in (n := 736) (by decide +kernel) rfl
theorem cp_sta : Cond.static arraycopyName ∈ sT := sT_in (n := 735) (by decide +kernel) rfl
theorem cp_ini : Cond.initialized "java/lang/System" ∈ sT := sT_in (n := 150) (by decide +kernel) rfl
theorem sCpI {q0 q1 : Nat × Nat} {sp dp n : Int32} {p1 : Nat} (hw : cpw cc own pc idx p1 = true) (h0 : kar q0.1 = 1) (h1 : kar q1.1 = 1) (hd1 : 1 ≤ d) (hc : cpo sp dp n (kln q0.1) (kln q1.1) = true) (k : sOk own cc nL d bl (pc + 3) lo [] (cI μ q0.1 q0.2 sp.toNatClampNeg q1.1 q1.2 dp.toNatClampNeg n.toNatClampNeg) o) :
    sOk own cc nL d bl pc lo [.inl n, .inl dp, .inr (.inr q1), .inl sp, .inr (.inr q0)] μ o := by
  intro r ρ ho E p l e R s m args below meth c cells slots Q G H locs ls A
  have K := k r ρ ho E p l e R s m args below meth c cells slots Q G
  obtain ⟨hE, ⟨hx, hcc, hml, hown, hts, hwm, hlow, hsz⟩, hR, -⟩ := G
  obtain ⟨hW, hS, hst, hlo, hls⟩ := A
  unfold cpw at hw
  rw [Bool.and_eq_true, decide_eq_true_eq, decide_eq_true_eq] at hw
  obtain ⟨hd, hp⟩ := hw
  unfold cpo at hc
  rw [decide_eq_true_eq] at hc
  obtain ⟨c1, c2, c3, c4, c5⟩ := hc
  have hk0 := kar_0 h0 (by decide)
  have hk1 := kar_0 h1 (by decide)
  have hl0 : q0.2 < kni q0.1 := sl_ref (hst (.inr (.inr q0)) (by simp)) hk0
  have hl1 : q1.2 < kni q1.1 := sl_ref (hst (.inr (.inr q1)) (by simp)) hk1
  refine va_copyi (rest := []) (f := rI μ q0.1 q0.2) (g := rI μ q1.1 q1.2) (ty := .int) hx hcc (hml.trans hls.1.symm) hown (hts _ (sT_in hp rfl)) (hts _ cp_nat) (hts _ cp_sta) (hts _ cp_ini) (sK_at hE hwm) hW.1 (wld_D E μ) hS (kof q0.1 q0.2) (kof q1.1 q1.2) 0 0 (c0 := eT E 0) (c1 := eT E 0) (n0 := kln q0.1) (n1 := kln q1.1) ?_ ?_ rfl rfl rfl c1 c2 c3 c4 c5 (fun _ _ => rfl) (by omega) ?_ hd ?_
  · rw [wld_at E μ hl0, ent_i h0, sad_ne hk0]
  · rw [wld_at E μ hl1, ent_i h1, sad_ne hk1]
  · have e1 : nativeFrameWords "java/lang/System" "arraycopy" 5 = 7 := by decide +kernel
    rw [e1]
    show 0 + (7 + 11) ≤ _
    omega
  · intro H1 locs1 hP1 _ hS1
    rw [sad_ne hk1] at hP1
    refine K H1 locs1 ls ⟨?_, hS1, (fun v h => by cases h), hlo, hls⟩
    refine sW_put hW hl1 hP1 ?_ (fun a b z h => by rw [rI_cI, if_neg (fun w => pair_ne h ⟨w.1, w.2.1⟩)]) (fun _ _ _ _ => rfl) (fun _ _ _ _ => rfl) (low_of hlow hsz hS1) (fun k i j n a b => hW.2.2.2 k i j n a b)
    rw [ent_i h1]
    have e2 : rI (cI μ q0.1 q0.2 sp.toNatClampNeg q1.1 q1.2 dp.toNatClampNeg n.toNatClampNeg) q1.1 q1.2 = va_cpy (rI μ q0.1 q0.2) (rI μ q1.1 q1.2) sp.toNatClampNeg dp.toNatClampNeg n.toNatClampNeg := by
      funext z
      unfold va_cpy
      rw [rI_cI]
      by_cases hz : dp.toNatClampNeg ≤ z ∧ z < dp.toNatClampNeg + n.toNatClampNeg
      · rw [if_pos ⟨rfl, rfl, hz⟩, if_pos hz]
      · rw [if_neg (fun w => hz w.2.2), if_neg hz]
    rw [e2]
theorem sCpL {q0 q1 : Nat × Nat} {sp dp n : Int32} {p1 : Nat} (hw : cpw cc own pc idx p1 = true) (h0 : kar q0.1 = 2) (h1 : kar q1.1 = 2) (hd1 : 1 ≤ d) (hc : cpo sp dp n (kln q0.1) (kln q1.1) = true) (k : sOk own cc nL d bl (pc + 3) lo [] (cL μ q0.1 q0.2 sp.toNatClampNeg q1.1 q1.2 dp.toNatClampNeg n.toNatClampNeg) o) :
    sOk own cc nL d bl pc lo [.inl n, .inl dp, .inr (.inr q1), .inl sp, .inr (.inr q0)] μ o := by
  intro r ρ ho E p l e R s m args below meth c cells slots Q G H locs ls A
  have K := k r ρ ho E p l e R s m args below meth c cells slots Q G
  obtain ⟨hE, ⟨hx, hcc, hml, hown, hts, hwm, hlow, hsz⟩, hR, -⟩ := G
  obtain ⟨hW, hS, hst, hlo, hls⟩ := A
  unfold cpw at hw
  rw [Bool.and_eq_true, decide_eq_true_eq, decide_eq_true_eq] at hw
  obtain ⟨hd, hp⟩ := hw
  unfold cpo at hc
  rw [decide_eq_true_eq] at hc
  obtain ⟨c1, c2, c3, c4, c5⟩ := hc
  have hk0 := kar_0 h0 (by decide)
  have hk1 := kar_0 h1 (by decide)
  have hl0 : q0.2 < kni q0.1 := sl_ref (hst (.inr (.inr q0)) (by simp)) hk0
  have hl1 : q1.2 < kni q1.1 := sl_ref (hst (.inr (.inr q1)) (by simp)) hk1
  refine va_copyl (rest := []) (f := rL μ q0.1 q0.2) (g := rL μ q1.1 q1.2) (ty := .long) hx hcc (hml.trans hls.1.symm) hown (hts _ (sT_in hp rfl)) (hts _ cp_nat) (hts _ cp_sta) (hts _ cp_ini) (sK_at hE hwm) hW.1 (wld_D E μ) hS (kof q0.1 q0.2) (kof q1.1 q1.2) 1 1 (c0 := eT E 1) (c1 := eT E 1) (n0 := kln q0.1) (n1 := kln q1.1) ?_ ?_ rfl rfl rfl c1 c2 c3 c4 c5 (fun _ _ => rfl) (by omega) ?_ hd ?_
  · rw [wld_at E μ hl0, ent_l h0, sad_ne hk0]
  · rw [wld_at E μ hl1, ent_l h1, sad_ne hk1]
  · have e1 : nativeFrameWords "java/lang/System" "arraycopy" 5 = 7 := by decide +kernel
    rw [e1]
    show 0 + (7 + 11) ≤ _
    omega
  · intro H1 locs1 hP1 _ hS1
    rw [sad_ne hk1] at hP1
    refine K H1 locs1 ls ⟨?_, hS1, (fun v h => by cases h), hlo, hls⟩
    refine sW_put hW hl1 hP1 ?_ (fun _ _ _ _ => rfl) (fun a b z h => by rw [rL_cL, if_neg (fun w => pair_ne h ⟨w.1, w.2.1⟩)]) (fun _ _ _ _ => rfl) (low_of hlow hsz hS1) (fun k i j n a b => hW.2.2.2 k i j n a b)
    rw [ent_l h1]
    have e2 : rL (cL μ q0.1 q0.2 sp.toNatClampNeg q1.1 q1.2 dp.toNatClampNeg n.toNatClampNeg) q1.1 q1.2 = va_cpy (rL μ q0.1 q0.2) (rL μ q1.1 q1.2) sp.toNatClampNeg dp.toNatClampNeg n.toNatClampNeg := by
      funext z
      unfold va_cpy
      rw [rL_cL]
      by_cases hz : dp.toNatClampNeg ≤ z ∧ z < dp.toNatClampNeg + n.toNatClampNeg
      · rw [if_pos ⟨rfl, rfl, hz⟩, if_pos hz]
      · rw [if_neg (fun w => hz w.2.2), if_neg hz]
    rw [e2]
/-! the script -/
theorem sX_at {E : sE} {s : State} (hE : sEn E) (hwm : (eS E).WarmedH s.vm) (hlow : ∀ q : Nat, q < (eS E).heap.size → s.heap[q]? = (eS E).heap[q]?) {H : Heap} (hW : sW E μ H) : va_X (eB E) (eL E) (rI μ 0 0) s s.heap := (hW.2.1.1.moved hwm.alike).kept (hlow _ hE.2.1)
theorem sSl {i : Int32} {t : List sV} (hd : decode cc pc = .ok (.iaload, 1)) (hi : inb i (rI μ 0 1 0).toNatClampNeg = true) (k : sOk own cc nL d bl (pc + 1) lo (.inl (rI μ 0 0 i.toNatClampNeg) :: t) μ o) : sOk own cc nL d bl pc lo (.inl i :: .inr (.inr (0, 0)) :: t) μ o := by
  intro r ρ ho E p l e R s m args below meth c cells slots Q G H locs ls A
  have K := k r ρ ho E p l e R s m args below meth c cells slots Q G H locs ls ⟨A.1, A.2.1, sl_cons trivial (sl_tail (sl_tail A.2.2.1)), A.2.2.2⟩
  obtain ⟨hE, ⟨hx, hcc, hml, hown, hts, hwm, hlow, hsz⟩, hR, -⟩ := G
  have e1 : (rI μ 0 1 0).toNatClampNeg = eL E := by
    rw [A.1.2.1.2]
    exact nI_clamp (by have := hE.2.2.1; omega)
  rw [e1] at hi
  exact va_sld hx hcc (sX_at hE hwm hlow A.1) (Nat.lt_of_lt_of_le hE.2.1 hsz) (Nat.not_le.mpr hE.2.1) A.2.1 (inb_in hi) hd K
theorem sSn {t : List sV} (hd : decode cc pc = .ok (.arraylength, 1)) (k : sOk own cc nL d bl (pc + 1) lo (.inl (rI μ 0 1 0) :: t) μ o) : sOk own cc nL d bl pc lo (.inr (.inr (0, 0)) :: t) μ o := by
  intro r ρ ho E p l e R s m args below meth c cells slots Q G H locs ls A
  have K := k r ρ ho E p l e R s m args below meth c cells slots Q G H locs ls ⟨A.1, A.2.1, sl_cons trivial (sl_tail A.2.2.1), A.2.2.2⟩
  obtain ⟨hE, ⟨hx, hcc, hml, hown, hts, hwm, hlow, hsz⟩, hR, -⟩ := G
  rw [A.1.2.1.2] at K
  exact va_slen hx hcc (sX_at hE hwm hlow A.1) (Nat.lt_of_lt_of_le hE.2.1 hsz) (Nat.not_le.mpr hE.2.1) A.2.1 hd K
end M11
