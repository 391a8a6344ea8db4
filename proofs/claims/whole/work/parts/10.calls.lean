/-! 10: switches, returns, methods, calls -/
/-- a switch's place: the first pair that fits -/
def swl : List (Int32 × Nat) → Nat → Int32 → Nat
  | [], d, _ => d
  | (v, t) :: r, d, x => if x = v then t else swl r d x
theorem swl_ne {d : Nat} {x : Int32} : ∀ {ps : List (Int32 × Nat)}, (∀ q ∈ ps, x ≠ q.1) → swl ps d x = d
  | [], _ => rfl
  | (v, t) :: r, h => by
    unfold swl
    rw [if_neg (h (v, t) List.mem_cons_self)]
    exact swl_ne (fun q hq => h q (List.mem_cons_of_mem _ hq))
/-- all that a tableswitch's row rests on, decided -/
def swt (cc : ByteArray) (pc : Nat) (ps : List (Int32 × Nat)) (d : Nat) : Bool := match decode cc pc with
  | .ok (.tableswitch dflt lo hi offs, _) => decide ((pc : Int) + dflt = (d : Int)) && (decide (-1000 ≤ lo ∧ hi ≤ 1000 ∧ lo ≤ hi ∧ offs.size = (hi - lo + 1).toNat) && (ps.all (fun q => decide (lo ≤ q.1.toInt ∧ q.1.toInt ≤ hi)) && (List.range offs.size).all (fun n => decide ((pc : Int) + offs.getD n 0 = (swl ps d (Int32.ofInt (lo + n)) : Int)))))
  | _ => false
def lut (cc : ByteArray) (pc : Nat) (ps : List (Int32 × Nat)) (d : Nat) : Bool := match decode cc pc with
  | .ok (.lookupswitch dflt qs, _) => decide ((pc : Int) + dflt = (d : Int)) && ((qs.toList.zip (qs.toList.drop 1)).all (fun (a, next) => a.1 < next.1) && (decide (qs.toList.map (fun q => (q.1, (pc : Int) + q.2)) = ps.map (fun q => (q.1.toInt, (q.2 : Int))))))
  | _ => false
theorem lut_off (pc : Nat) (dflt : Int) (d : Nat) (hd : (pc : Int) + dflt = (d : Int)) (x : Int32) : ∀ (qs : List (Int × Int)) (ps : List (Int32 × Nat)), qs.map (fun q => (q.1, (pc : Int) + q.2)) = ps.map (fun q => (q.1.toInt, (q.2 : Int))) → (pc : Int) + Op.lookupswitch.offset qs dflt x.toInt = (swl ps d x : Int)
  | [], [], _ => hd
  | [], _ :: _, h => by cases h
  | _ :: _, [], h => by cases h
  | (a, o) :: qs, (v, t) :: ps, h => by
    simp only [List.map_cons, List.cons.injEq, Prod.mk.injEq] at h
    obtain ⟨⟨h1, h2⟩, h3⟩ := h
    rw [Op.lookupswitch.offset_cons]
    unfold swl
    by_cases e : x = v
    · rw [if_pos e, if_pos (by rw [e]; exact h1)]
      exact h2
    · rw [if_neg e, if_neg (fun q => e (Int32.toInt_inj.mp (q.symm.trans h1)))]
      exact lut_off pc dflt d hd x qs ps h3
section R10
variable {own : Nat} {cc : ByteArray} {nL d : Nat} {bl : Bool} {pc : Nat} {lo lo' : sL} {st st' : List sV} {μ μ' : sM} {o : Option (Option sV × sM)}
theorem sTs {ps : List (Int32 × Nat)} {df : Nat} {x : Int32} (h : swt cc pc ps df = true) (k : sOk own cc nL d bl (swl ps df x) lo st μ o) : sOk own cc nL d bl pc lo (.inl x :: st) μ o := by
  intro r ρ ho E p l e R s m args below meth c cells slots Q G H locs ls A
  have K := k r ρ ho E p l e R s m args below meth c cells slots Q G H locs ls (at_1 A)
  unfold swt at h
  split at h
  · rename_i dflt low hi offs len hd
    simp only [Bool.and_eq_true, decide_eq_true_eq, List.all_eq_true, List.mem_range] at h
    obtain ⟨h1, ⟨b1, b2, b3, b4⟩, h2, h3⟩ := h
    by_cases hout : x.toInt < low ∨ hi < x.toInt
    · have e1 : swl ps df x = df := swl_ne (fun q hq e => by
        have := h2 q hq
        rw [← e] at this
        omega)
      rw [e1] at K
      exact lv_tableOut G.2.1.1 G.2.1.2.1 hd hout h1 K
    · have hlo : low ≤ x.toInt := by omega
      have hhi : x.toInt ≤ hi := by omega
      obtain ⟨n, hn⟩ : ∃ n : Nat, x.toInt = low + n := ⟨(x.toInt - low).toNat, by omega⟩
      have hsz : n < offs.size := by rw [b4]; omega
      have hx : Int32.ofInt (low + n) = x := by rw [← hn]; exact Int32.ofInt_toInt x
      have h4 := h3 n hsz
      rw [hx] at h4
      refine lv_tableIn G.2.1.1 G.2.1.2.1 hd (by omega) (by omega) (off := offs.getD n 0) ?_ h4 K
      rw [show (x.toInt - low).toNat = n by omega]
      simp [hsz]
  · cases h
theorem sLu {ps : List (Int32 × Nat)} {df : Nat} {x : Int32} (h : lut cc pc ps df = true) (k : sOk own cc nL d bl (swl ps df x) lo st μ o) : sOk own cc nL d bl pc lo (.inl x :: st) μ o := by
  intro r ρ ho E p l e R s m args below meth c cells slots Q G H locs ls A
  have K := k r ρ ho E p l e R s m args below meth c cells slots Q G H locs ls (at_1 A)
  unfold lut at h
  split at h
  · rename_i dflt qs len hd
    simp only [Bool.and_eq_true, decide_eq_true_eq] at h
    obtain ⟨h1, h2, h3⟩ := h
    exact lv_lookup G.2.1.1 G.2.1.2.1 hd h2 rfl (lut_off pc dflt df h1 x qs.toList ps h3) K
  · cases h
theorem sSc {v x : Int32} {t : Nat} {ps : List (Int32 × Nat)} {df : Nat} {β : Type} (g : β → Option (Option sV × sM)) {a b : β} (ka : x = v → sOk own cc nL d bl t lo st μ (g a)) (kb : ¬ x = v → sOk own cc nL d bl (swl ps df x) lo st μ (g b)) : sOk own cc nL d bl (swl ((v, t) :: ps) df x) lo st μ (g (if x = v then a else b)) := by
  unfold swl
  by_cases e : x = v
  · rw [if_pos e, if_pos e]
    exact ka e
  · rw [if_neg e, if_neg e]
    exact kb e
/-! ends -/
def oI (f : Option (Int32 × sM)) : Option (Option sV × sM) := f.map (fun q => (some (.inl q.1), q.2))
def oL (f : Option (Int64 × sM)) : Option (Option sV × sM) := f.map (fun q => (some (.inr (.inl q.1)), q.2))
def oV (f : Option sM) : Option (Option sV × sM) := f.map (fun q => (none, q))
def oA (k : Nat) (f : Option (Nat × sM)) : Option (Option sV × sM) := f.map (fun q => (some (.inr (.inr (k, q.1))), q.2))
theorem sRi {x : Int32} (hd : decode cc pc = .ok (.ireturn, 1)) (hb : bl = true → x = 0 ∨ x = 1) : sOk own cc nL d bl pc lo [.inl x] μ (oI (some (x, μ))) := by
  intro r ρ ho E p l e R s m args below meth c cells slots Q G H locs ls A
  cases ho
  exact G.2.2.2 H locs pc ls A.1 A.2.1 ⟨hd, hb⟩ (fun v h => by cases h; trivial)
theorem sRl {x : Int64} (hd : decode cc pc = .ok (.lreturn, 1)) : sOk own cc nL d bl pc lo [.inr (.inl x)] μ (oL (some (x, μ))) := by
  intro r ρ ho E p l e R s m args below meth c cells slots Q G H locs ls A
  cases ho
  exact G.2.2.2 H locs pc ls A.1 A.2.1 hd (fun v h => by cases h; trivial)
theorem sRa {k i : Nat} (hd : decode cc pc = .ok (.areturn, 1)) : sOk own cc nL d bl pc lo [.inr (.inr (k, i))] μ (oA k (some (i, μ))) := by
  intro r ρ ho E p l e R s m args below meth c cells slots Q G H locs ls A
  cases ho
  exact G.2.2.2 H locs pc ls A.1 A.2.1 hd (fun v h => by cases h; exact sl_head A.2.2.1)
theorem sRv (hd : decode cc pc = .ok (.return_, 1)) : sOk own cc nL d bl pc lo [] μ (oV (some μ)) := by
  intro r ρ ho E p l e R s m args below meth c cells slots Q G H locs ls A
  cases ho
  exact G.2.2.2 H locs pc ls A.1 A.2.1 hd (fun v h => by cases h)
end R10
/-! methods -/
def sPc (E : sE) (avs : List sV) (μ : sM) : Array Value → State → Prop := fun v U => v = (avs.map (gm E)).toArray ∧ (eS E).WarmedH U.vm ∧ sW E μ U.heap ∧ (eS E).heap.size ≤ U.heap.size
def sQc (E : sE) (r : Option sV) (ρ : sM) : Array Value → State → Outcome → State → Prop := fun _ u oc t => oc = .returned (r.map (gm E)) ∧ (eS E).WarmedH t.vm ∧ sW E ρ t.heap ∧ u.heap.size ≤ t.heap.size ∧ ∀ v, r = some v → slv v
def sRm (d : Nat) : Room := { frames := d, cells := 0, slots := 0, locals := 64 * d }
def sMt (y : MethodName) (cc : ByteArray) (nL : Nat) (ret : Option FieldType) (d : Nat) (avs : List sV) (μ : sM) (o : Option (Option sV × sM)) : Prop :=
  ∀ (r : Option sV) (ρ : sM), o = some (r, ρ) → ∀ (l : Launch) (E : sE), sEn E → (∀ v ∈ avs, slv v) → Met l y (.code y cc nL ret :: sT) (sRm d) (sPc E avs μ) (sQc E r ρ) 0 0 (sA E)
def la : Nat → List sV → sL
  | _, [] => []
  | i, v :: vs => (i, v) :: la (if ct2 v = true then i + 2 else i + 1) vs
def lz : List sV → Nat
  | [] => 0
  | v :: vs => (if ct2 v = true then 2 else 1) + lz vs
theorem cat_2 (E : sE) (v : sV) : (gm E v).category = 2 ↔ ct2 v = true := by
  rcases v with x | x | q <;> simp [gm, Value.category, ct2]
theorem la_gm (E : sE) : ∀ (vs : List sV) (i : Nat), lv_args i (vs.map (gm E)) = (la i vs).map (gl E)
  | [], _ => rfl
  | v :: vs, i => by
    show (i, gm E v) :: lv_args (if (gm E v).category = 2 then i + 2 else i + 1) (vs.map (gm E)) = (i, gm E v) :: (la (if ct2 v = true then i + 2 else i + 1) vs).map (gl E)
    rw [la_gm E vs]
    simp only [cat_2]
theorem lz_gm (E : sE) : ∀ vs : List sV, (lg_sl (vs.map (gm E))).length = lz vs
  | [] => rfl
  | v :: vs => by
    have h := lz_gm E vs
    unfold lg_sl at h ⊢
    rw [List.map_cons, List.flatMap_cons, List.length_append, h]
    show _ = (if ct2 v = true then 2 else 1) + lz vs
    by_cases e : ct2 v = true
    · rw [if_pos ((cat_2 E v).mpr e), if_pos e]
      rfl
    · rw [if_neg (fun q => e ((cat_2 E v).mp q)), if_neg e]
      rfl
theorem la_sl {vs : List sV} (h : ∀ v ∈ vs, slv v) : ∀ i, ∀ q ∈ la i vs, slv q.2 := by
  induction vs with
  | nil => intro i q hq; cases hq
  | cons v vs ih =>
    intro i q hq
    rcases List.mem_cons.mp hq with rfl | hq
    · exact h v List.mem_cons_self
    · exact ih (fun w hw => h w (List.mem_cons_of_mem _ hw)) _ q hq
/-- what a return leaves is what the method's type takes -/
def rOk (ret : Option FieldType) (bl : Bool) (r : Option sV) : Prop := match r with
  | none => ret = none
  | some (.inl _) => ret = some .int ∨ (ret = some .boolean ∧ bl = true)
  | some (.inr (.inl _)) => ret = some .long
  | some (.inr (.inr _)) => ∃ n, ret = some (.object n)
set_option maxHeartbeats 1000000 in
theorem sMt_of {y : MethodName} {own : Nat} {cc : ByteArray} {nL : Nat} {ret : Option FieldType} {d : Nat} {bl : Bool} {avs : List sV} {μ : sM} {o : Option (Option sV × sM)} (hy : plainName y.cls = true) (hown : kRn own = y.cls) (hz : lz avs ≤ nL) (hr : ∀ r ρ, o = some (r, ρ) → rOk ret bl r)
    (k : sOk own cc nL d bl 0 (la 0 avs) [] μ o) : sMt y cc nL ret d avs μ o := by
  intro r ρ ho l E hE hsl
  refine Met.ofW (cc := cc) (maxL := nL) (ret := ret) hy rfl ?_
  intro p e s m args below meth c s₁ B hml hv
  obtain ⟨rfl, hwm, hW, hsz⟩ := hv
  have hts := atoms_spec (ws := .code y cc nL ret :: sT) B.pre
  have hfc : s.vm.findClass (kRn own) = some m.cls := by rw [hown]; exact findClass_of_methodNamed B.named
  have hl := lv_entry (avs.map (gm E)) (n := nL) (by rw [lz_gm]; exact hz)
  rw [la_gm] at hl
  rw [lg_entry_eq]
  have hmr := B.returns
  have hlk := B.notSynchronized
  refine k r ρ ho E p l e _ s m _ below meth c 0 0 _ ⟨hE, ⟨B.exec, B.bytes, hml, hfc, fun w hw => hts w (List.mem_cons_of_mem _ hw), hwm, hW.2.2.1, hsz⟩, ⟨Nat.le_refl _, Nat.le_refl _, Nat.le_refl _, Nat.le_refl _⟩, ?_⟩ s.heap [] _ ⟨hW, va_S.rf, (fun v h => by cases h), la_sl hsl 0, hl⟩
  intro H locs pc ls hW1 hS1 hret hsv
  have hq : ∀ t : State, t.heap = H → s.WarmedH t.vm → sQc E r ρ (avs.map (gm E)).toArray s (.returned (r.map (gm E))) t := fun t ht hw => ⟨rfl, hwm.trans hw, by rw [ht]; exact hW1, by rw [ht]; exact hS1.1, hsv⟩
  have hro := hr r ρ ho
  match r, hret, hq, hro with
  | none, hret, hq, hro =>
    exact W.vret B.exec B.bytes (hmr.trans hro) hq hS1.2.2 hret hlk
  | some (.inl x), hret, hq, hro =>
    rcases hro with hro | ⟨hro, hbl⟩
    · exact W.iret B.exec B.bytes (hmr.trans hro) hq hS1.2.2 hret.1 hlk
    · refine W.zret B.exec B.bytes (hmr.trans hro) ?_ hq hS1.2.2 hret.1 hlk
      rcases hret.2 hbl with rfl | rfl <;> decide +kernel
  | some (.inr (.inl x)), hret, hq, hro =>
    exact W.lret B.exec B.bytes (hmr.trans hro) hq hS1.2.2 hret hlk
  | some (.inr (.inr x)), hret, hq, hro =>
    obtain ⟨n, hn⟩ := hro
    exact W.aret B.exec B.bytes (hmr.trans hn) (Or.inl ⟨n, rfl⟩) (Or.inr ⟨_, rfl⟩) hq hS1.2.2 hret hlk
/-! calls -/
/-- what is known of a method that is called -/
def yF (y : MethodName) (cc : ByteArray) (nL : Nat) (ret : Option FieldType) (n : Nat) : Prop :=
  Cond.code y cc nL ret ∈ sT ∧ Cond.initialized y.cls ∈ sT ∧ (y.cls ≠ "java/lang/invoke/MethodHandle" ∧ y.cls ≠ "java/lang/invoke/VarHandle" ∧ (parseMethodDescriptor y.desc).map (fun d => d.parameters.length) = some n) ∧ nL ≤ 40
def yV (y : MethodName) (cc : ByteArray) (nL : Nat) (ret : Option FieldType) (n : Nat) : Prop := yF y cc nL ret n ∧ Cond.instanceMethod y ∈ sT ∧ Cond.selects y.cls y y ∈ sT
def yS (y : MethodName) (cc : ByteArray) (nL : Nat) (ret : Option FieldType) (n : Nat) : Prop := yF y cc nL ret n ∧ Cond.static y ∈ sT
theorem sT_GoodIn (y : MethodName) (cc : ByteArray) (nL : Nat) (ret : Option FieldType) (h : Cond.code y cc nL ret ∈ sT) : GoodIn sT (.code y cc nL ret :: sT) := by
  intro w hw
  rcases List.mem_cons.mp hw with rfl | hw
  · exact ⟨h, sT_good h⟩
  · exact ⟨hw, sT_good hw⟩
theorem sPc_blind (E : sE) (avs : List sV) (μ : sM) : FrameBlind (sPc E avs μ) := fun _ _ _ _ h => h
def scat : List sV → Nat
  | [] => 0
  | v :: vs => (if ct2 v = true then 2 else 1) + scat vs
theorem scat_gm (E : sE) : ∀ vs : List sV, ((vs.map (gm E)).map fun v => v.category).sum = scat vs
  | [] => rfl
  | v :: vs => by
    rw [List.map_cons, List.map_cons, List.sum_cons, scat_gm E vs]
    show _ = (if ct2 v = true then 2 else 1) + scat vs
    by_cases e : ct2 v = true
    · rw [if_pos e, (cat_2 E v).mpr e]
    · rw [if_neg e, ct1 (by simpa using e)]
section C10
variable {own : Nat} {cc : ByteArray} {nL d : Nat} {bl : Bool} {pc : Nat} {lo : sL} {st rest : List sV} {μ : sM} {o : Option (Option sV × sM)}
variable {y : MethodName} {cc' : ByteArray} {nL' d' n idx : Nat} {ret : Option FieldType} {avs : List sV} {r' : Option sV} {ρ' : sM}
/-- behind a call -/
theorem sBh {E : sE} {p : Program} {l : Launch} {e : Env} {R : Room} {s : State} {m : MethodId} {args : Array Value} {below : List Frame} {meth : Method} {c : Code} {cells slots : Nat} {Q : State → Prop} {H : Heap} {locs : List Loc} {ls : Array Slot} {a : Array Value} {stk : List Value}
    (C : sCx E p s m args c own cc nL) (A : sAt E nL s lo st μ H locs ls) (hrest : ∀ v ∈ rest, slv v) (hr : va_Run p l e R s m args below meth c H locs cells slots 0 0 (F0 m pc ls stk) (rest.map (gm E)) (sQc E r' ρ' a) (sA E))
    (K : ∀ (H : Heap) (locs : List Loc) (ls : Array Slot), sAt E nL s lo (r'.toList ++ rest) ρ' H locs ls → W p l e R s m args below meth c H locs cells slots Q (F0 m (pc + 3) ls ((r'.toList ++ rest).map (gm E)))) :
    W p l e R s m args below meth c H locs cells slots Q (F0 m pc ls stk) := by
  obtain ⟨hx, hcc, hml, hown, hts, hwm, hlow, hsz⟩ := C
  obtain ⟨hW, hS, hst, hlo, hls⟩ := A
  intro T hT X
  obtain ⟨v, u₀, t, T', L, h0, X', hL, e1, e2, ⟨hv, hw1, hW1, hz1, hsv⟩, go⟩ := hr T hT X
  cases hv
  rw [h0] at hz1
  have hS1 : va_S (sA E) s.heap T'.heap (locs ++ L) := by
    refine ⟨Nat.le_trans hS.1 (by rw [e1]; exact hz1), fun q h1 h2 => ?_, fun q hq => ?_⟩
    · have hq : q < (eS E).heap.size := Nat.not_le.mp h2
      rw [e1, hW1.2.2.1 q hq, hlow q hq]
    · rcases List.mem_append.mp hq with h | h
      · exact hS.2.2 q h
      · exact hL q h
  have hst1 : ∀ v ∈ r'.toList ++ rest, slv v := fun v hv => (List.mem_append.mp hv).elim (fun h => hsv v (by simpa using h)) (hrest v)
  obtain ⟨t2, a1, b1⟩ := K T'.heap (locs ++ L) ls ⟨by rw [e1]; exact hW1, hS1, hst1, hlo, hls⟩ T' rfl X'
  refine ⟨t2, go t2 ?_, b1⟩
  have e3 : (r'.map (gm E)).toList ++ rest.map (gm E) = (r'.toList ++ rest).map (gm E) := by cases r' <;> simp
  rw [e3]
  exact a1
theorem sCvb {q : Nat × Nat} {ci : Nat} (hM : sMt y cc' nL' ret d' (.inr (.inr q) :: avs) μ (some (r', ρ'))) (hd' : d' + 1 ≤ d) (hdec : decode cc pc = .ok (.invokevirtual idx, 3)) (hlink : Cond.methodLink (kRn own) idx y ∈ sT) (hy : yV y cc' nL' ret n) (hn : avs.length = n) (hci : ci < 13) (hq : q.1 = ci + 1) (hyc : kRn ci = y.cls)
    (hst : st = avs.reverse ++ .inr (.inr q) :: rest) (hrm : scat rest ≤ 8) (k : sOk own cc nL d bl (pc + 3) lo (r'.toList ++ rest) ρ' o) : sOk own cc nL d bl pc lo st μ o := by
  subst hst
  intro r ρ ho E p l e R s m args below meth c cells slots Q G H locs ls A
  have K := k r ρ ho E p l e R s m args below meth c cells slots Q G
  obtain ⟨hE, C, hR, -⟩ := G
  have hsl : ∀ v ∈ (Sum.inr (Sum.inr q) : sV) :: avs, slv v := fun v hv => A.2.2.1 v (by
    rcases List.mem_cons.mp hv with h | h
    · exact List.mem_append_right _ (h ▸ List.mem_cons_self)
    · exact List.mem_append_left _ (List.mem_reverse.mpr h))
  have hrest : ∀ v ∈ rest, slv v := fun v hv => A.2.2.1 v (List.mem_append_right _ (List.mem_cons_of_mem _ hv))
  have hl : q.2 < kni q.1 := sl_ref (sl_head hsl) (by omega)
  refine sBh (a := (Value.ref (sad E q) :: avs.map (gm E)).toArray) C A hrest ?_ K
  obtain ⟨hx, hcc, hml, hown, hts, hwm, hlow, hsz⟩ := C
  obtain ⟨⟨w1, w2, w3, w4⟩, w5, w6⟩ := hy
  have hM' := hM r' ρ' rfl l E hE hsl
  have hcb := callB_of (R := R) (s := s) (args := args) (own := kRn own) (index := idx) (maxL := nL') n hts (sT_GoodIn y cc' nL' ret w1) rfl (rm := sRm d') rfl rfl (hts _ w2) (hts _ hlink) w3 ⟨by show d' + 1 ≤ _; omega, by show 8 + (nL' + 11) + 64 * d' ≤ _; omega⟩
  have hPw := va_recv (sK_at hE hwm) A.1.1 (kcl ci hci) (cell_o hci hq hl)
  refine va_runV (C := y.cls) (b := sad E q) (As := avs.map (gm E)) (nL := nL) (Ts := sT) (own := kRn own) (cc := cc) ⟨hx, hcc, hml, hown, hts⟩ hM' ⟨hcb, hts _ w5, hts _ w6⟩ ⟨sPc_blind E _ μ, ?_, fun U hU hw => ⟨by rw [List.map_cons]; rfl, hwm.trans hw, by rw [hU]; exact A.1, by rw [hU]; exact Nat.le_trans hsz A.2.1.1⟩⟩ rfl (by rw [List.length_map]; exact hn) A.2.2.2.2.1 ?_ ?_ hdec ⟨hR.2.2.1, hR.2.2.2⟩
  · obtain ⟨cell, g1, g2, g3⟩ := hPw
    exact ⟨cell, g1, g2, by rw [← hyc]; exact g3⟩
  · show ((avs.reverse ++ _).map (gm E)) = _
    rw [List.map_append, List.map_reverse, List.map_cons]
    rfl
  · refine lv_room ?_
    rw [scat_gm]
    exact hrm
theorem sCsb (hM : sMt y cc' nL' ret d' avs μ (some (r', ρ'))) (hd' : d' + 1 ≤ d) (hdec : decode cc pc = .ok (.invokestatic idx, 3)) (hlink : Cond.methodLink (kRn own) idx y ∈ sT) (hy : yS y cc' nL' ret n) (hn : avs.length = n)
    (hst : st = avs.reverse ++ rest) (hrm : scat rest ≤ 8) (k : sOk own cc nL d bl (pc + 3) lo (r'.toList ++ rest) ρ' o) : sOk own cc nL d bl pc lo st μ o := by
  subst hst
  intro r ρ ho E p l e R s m args below meth c cells slots Q G H locs ls A
  have K := k r ρ ho E p l e R s m args below meth c cells slots Q G
  obtain ⟨hE, C, hR, -⟩ := G
  have hsl : ∀ v ∈ avs, slv v := fun v hv => A.2.2.1 v (List.mem_append_left _ (List.mem_reverse.mpr hv))
  have hrest : ∀ v ∈ rest, slv v := fun v hv => A.2.2.1 v (List.mem_append_right _ hv)
  refine sBh (a := (avs.map (gm E)).toArray) C A hrest ?_ K
  obtain ⟨hx, hcc, hml, hown, hts, hwm, hlow, hsz⟩ := C
  obtain ⟨⟨w1, w2, w3, w4⟩, w5⟩ := hy
  have hM' := hM r' ρ' rfl l E hE hsl
  have hcb := callB_of (R := R) (s := s) (args := args) (own := kRn own) (index := idx) (maxL := nL') n hts (sT_GoodIn y cc' nL' ret w1) rfl (rm := sRm d') rfl rfl (hts _ w2) (hts _ hlink) w3 ⟨by show d' + 1 ≤ _; omega, by show 8 + (nL' + 11) + 64 * d' ≤ _; omega⟩
  refine va_runS (As := avs.map (gm E)) (nL := nL) (Ts := sT) (own := kRn own) (cc := cc) ⟨hx, hcc, hml, hown, hts⟩ hM' ⟨hcb, hts _ w5⟩ ⟨sPc_blind E _ μ, fun U hU hw => ⟨rfl, hwm.trans hw, by rw [hU]; exact A.1, by rw [hU]; exact Nat.le_trans hsz A.2.1.1⟩⟩ rfl (by rw [List.length_map]; exact hn) A.2.2.2.2.1 ?_ ?_ hdec ⟨hR.2.2.1, hR.2.2.2⟩
  · show ((avs.reverse ++ rest).map (gm E)) = _
    rw [List.map_append, List.map_reverse]
  · refine lv_room ?_
    rw [scat_gm]
    exact hrm
end C10
