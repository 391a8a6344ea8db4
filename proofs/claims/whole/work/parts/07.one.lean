/-! 07: one straight step, whole -/
theorem i_get {ci sl : Nat} {lo lo' : sL} {st st' : List sV} {μ μ' : sM} (h : e_get ci sl lo st μ = some (lo', st', μ')) : ∃ q t v, st = .inr (.inr q) :: t ∧ q.1 = ci + 1 ∧ lo' = lo ∧ μ' = μ ∧ st' = v :: t ∧
    (((kft q.1 sl = 0 ∨ kft q.1 sl = 4) ∧ v = .inl (rI μ q.1 q.2 sl)) ∨ (kft q.1 sl = 1 ∧ v = .inr (.inl (rL μ q.1 q.2 sl))) ∨ (kft q.1 sl = 2 ∧ v = .inr (.inr (kfd q.1 sl q.2)))) := by
  unfold e_get at h
  split at h
  · rename_i q t
    split at h
    · rename_i hq
      split at h
      · rename_i hk
        simp only [Option.some.injEq, Prod.mk.injEq] at h
        exact ⟨q, t, _, rfl, hq, h.1.symm, h.2.2.symm, h.2.1.symm, Or.inl ⟨Or.inl hk, rfl⟩⟩
      · rename_i hk
        simp only [Option.some.injEq, Prod.mk.injEq] at h
        exact ⟨q, t, _, rfl, hq, h.1.symm, h.2.2.symm, h.2.1.symm, Or.inl ⟨Or.inr hk, rfl⟩⟩
      · rename_i hk
        simp only [Option.some.injEq, Prod.mk.injEq] at h
        exact ⟨q, t, _, rfl, hq, h.1.symm, h.2.2.symm, h.2.1.symm, Or.inr (Or.inl ⟨hk, rfl⟩)⟩
      · rename_i hk
        simp only [Option.some.injEq, Prod.mk.injEq] at h
        exact ⟨q, t, _, rfl, hq, h.1.symm, h.2.2.symm, h.2.1.symm, Or.inr (Or.inr ⟨hk, rfl⟩)⟩
      · cases h
    · cases h
  · cases h
theorem i_put {ci sl : Nat} {lo lo' : sL} {st st' : List sV} {μ μ' : sM} (h : e_put ci sl lo st μ = some (lo', st', μ')) : ∃ q t v, st = v :: .inr (.inr q) :: t ∧ q.1 = ci + 1 ∧ lo' = lo ∧ st' = t ∧
    ((∃ x, v = .inl x ∧ (kft q.1 sl = 0 ∨ (kft q.1 sl = 4 ∧ (x = 0 ∨ x = 1))) ∧ μ' = wI μ q.1 q.2 sl x) ∨ (∃ x, v = .inr (.inl x) ∧ kft q.1 sl = 1 ∧ μ' = wL μ q.1 q.2 sl x) ∨ (∃ x : Nat × Nat, v = .inr (.inr x) ∧ kft q.1 sl = 3 ∧ x.1 = (kfr q.1 sl).1 ∧ x.1 ≠ 0 ∧ μ' = wR μ q.1 q.2 sl (x.2 + 1))) := by
  unfold e_put at h
  split at h
  · rename_i x q t
    split at h
    · rename_i hq
      split at h
      · rename_i hk
        simp only [Option.some.injEq, Prod.mk.injEq] at h
        exact ⟨q, t, _, rfl, hq, h.1.symm, h.2.1.symm, Or.inl ⟨x, rfl, Or.inl hk, h.2.2.symm⟩⟩
      · rename_i hk
        split at h
        · rename_i hx
          simp only [Option.some.injEq, Prod.mk.injEq] at h
          exact ⟨q, t, _, rfl, hq, h.1.symm, h.2.1.symm, Or.inl ⟨x, rfl, Or.inr ⟨hk, hx⟩, h.2.2.symm⟩⟩
        · cases h
      · cases h
    · cases h
  · rename_i x q t
    split at h
    · rename_i hq
      split at h
      · rename_i hk
        simp only [Option.some.injEq, Prod.mk.injEq] at h
        exact ⟨q, t, _, rfl, hq, h.1.symm, h.2.1.symm, Or.inr (Or.inl ⟨x, rfl, hk, h.2.2.symm⟩)⟩
      · cases h
    · cases h
  · rename_i x q t
    split at h
    · rename_i hq
      split at h
      · rename_i hk
        split at h
        · rename_i hx
          simp only [Option.some.injEq, Prod.mk.injEq] at h
          exact ⟨q, t, _, rfl, hq, h.1.symm, h.2.1.symm, Or.inr (Or.inr ⟨x, rfl, hk, hx.1, hx.2, h.2.2.symm⟩)⟩
        · cases h
      · cases h
    · cases h
  · cases h
theorem ftc0 {t : FieldType} (h : ftc t = 0) : t = .int := by cases t <;> simp_all [ftc]
theorem ftc1 {t : FieldType} (h : ftc t = 1) : t = .long := by cases t <;> simp_all [ftc]
theorem ftc4 {t : FieldType} (h : ftc t = 4) : t = .boolean := by cases t <;> simp_all [ftc]
theorem ftc3 {t : FieldType} (h : ftc t = 3) : ∃ n, t = .object n := by cases t <;> simp_all [ftc]
theorem kft_c {ci sl a : Nat} (hn : ci < 13) (hs : sl < knf (ci + 1)) (h : kft (ci + 1) sl = a) (ha : a ≠ 2) : (kTt ci sl).2.2.2 = false ∧ ftc (kTy ci sl) = a := by
  rcases (kfc ci hn sl hs).2 with q | q
  · exact absurd (h.symm.trans q) ha
  · exact ⟨q.1, by rw [← q.2, h]⟩
section S1
variable {own : Nat} {cc : ByteArray} {nL d : Nat} {bl : Bool} {pc : Nat} {lo lo' : sL} {st st' : List sV} {μ μ' : sM} {o : Option (Option sV × sM)}
variable {E : sE} {p : Program} {l : Launch} {e : Env} {R : Room} {s : State} {m : MethodId} {args : Array Value} {below : List Frame} {meth : Method} {c : Code} {cells slots : Nat} {Q : State → Prop} {H : Heap} {locs : List Loc} {ls : Array Slot}
theorem cell_o {q : Nat × Nat} {ci : Nat} (hn : ci < 13) (hq : q.1 = ci + 1) (hl : q.2 < kni q.1) : (wld E μ)[kof q.1 q.2]? = some (sad E q, .inr (ci, (List.range (knf (ci + 1))).map (fval E μ q.1 q.2))) := by
  rw [wld_at E μ hl, ent_o hn hq, sad_ne (by omega)]
theorem w_get {ci sl idx : Nat} (hE : sEn E) (C : sCx E p s m args c own cc nL) (A : sAt E nL s lo st μ H locs ls) (hd : decode cc pc = .ok (.getfield idx, 3)) (ha : kFL.any (fun r => r.2.1 == own && (r.2.2.1 == idx && (r.2.2.2.1 == ci && r.2.2.2.2 == sl))) = true)
    (he : e_get ci sl lo st μ = some (lo', st', μ')) (K : ∀ (H : Heap) (locs : List Loc) (ls : Array Slot), sAt E nL s lo' st' μ' H locs ls → W p l e R s m args below meth c H locs cells slots Q (F0 m (pc + 3) ls (st'.map (gm E)))) :
    W p l e R s m args below meth c H locs cells slots Q (F0 m pc ls (st.map (gm E))) := by
  obtain ⟨hx, hcc, hml, hown, hts, hwm, hlow, hsz⟩ := C
  obtain ⟨hW, hS, hst, hlo, hls⟩ := A
  obtain ⟨hlink, hn, hsl⟩ := kFL_any ha
  obtain ⟨q, t, v, rfl, hq, rfl, rfl, rfl, hv⟩ := i_get he
  have hl : q.2 < kni q.1 := sl_ref (sl_head hst) (by omega)
  have hg : gm E v = fval E μ' q.1 q.2 sl := by
    unfold fval
    rcases hv with ⟨hk | hk, rfl⟩ | ⟨hk, rfl⟩ | ⟨hk, rfl⟩ <;> rw [hk] <;> rfl
  have hk80 : q.1 < 80 := by omega
  have hsv : slv v := by
    rcases hv with ⟨-, rfl⟩ | ⟨-, rfl⟩ | ⟨hk, rfl⟩
    · trivial
    · trivial
    · exact Or.inl (kfdl q.1 hk80 sl (kft_lt (by rw [hk]; decide)) hk q.2 hl)
  have Kf := K H locs ls ⟨hW, hS, sl_cons hsv (sl_tail hst), hlo, hls⟩
  rw [List.map_cons, hg] at Kf
  exact va_get hx hcc hts (kU ci hn) hown (sK_at hE hwm) hW.1 (kof q.1 q.2) (cell_o hn hq hl) (kcl ci hn) sl hsl (hts _ hlink) (fun x h => by rw [(kfc ci hn sl hsl).1] at h; exact h) (rng_at hsl) hd Kf
theorem w_put {ci sl idx : Nat} (hE : sEn E) (C : sCx E p s m args c own cc nL) (A : sAt E nL s lo st μ H locs ls) (hd : decode cc pc = .ok (.putfield idx, 3)) (ha : kFL.any (fun r => r.2.1 == own && (r.2.2.1 == idx && (r.2.2.2.1 == ci && r.2.2.2.2 == sl))) = true)
    (he : e_put ci sl lo st μ = some (lo', st', μ')) (K : ∀ (H : Heap) (locs : List Loc) (ls : Array Slot), sAt E nL s lo' st' μ' H locs ls → W p l e R s m args below meth c H locs cells slots Q (F0 m (pc + 3) ls (st'.map (gm E)))) :
    W p l e R s m args below meth c H locs cells slots Q (F0 m pc ls (st.map (gm E))) := by
  obtain ⟨hx, hcc, hml, hown, hts, hwm, hlow, hsz⟩ := C
  obtain ⟨hW, hS, hst, hlo, hls⟩ := A
  obtain ⟨hlink, hn, hsl⟩ := kFL_any ha
  obtain ⟨q, t, v, rfl, hq, rfl, rfl, hv⟩ := i_put he
  have hl : q.2 < kni q.1 := sl_ref (sl_head (sl_tail hst)) (by omega)
  have hty : (kTt ci sl).2.2.2 = false ∧ narrow (kTy ci sl) (gm E v) = gm E v ∧ fits (kTy ci sl) (gm E v) = true := by
    rcases hv with ⟨x, rfl, hk | ⟨hk, hx⟩, -⟩ | ⟨x, rfl, hk, -⟩ | ⟨x, rfl, hk, -, -, -⟩ <;> rw [hq] at hk
    · obtain ⟨a, b⟩ := kft_c hn hsl hk (by decide)
      rw [ftc0 b]
      exact ⟨a, vp_nar_int x, rfl⟩
    · obtain ⟨a, b⟩ := kft_c hn hsl hk (by decide)
      rw [ftc4 b]
      rcases hx with rfl | rfl
      · exact ⟨a, (by decide +kernel : narrow FieldType.boolean (.int 0) = .int 0), (by decide +kernel : fits FieldType.boolean (.int 0) = true)⟩
      · exact ⟨a, (by decide +kernel : narrow FieldType.boolean (.int 1) = .int 1), (by decide +kernel : fits FieldType.boolean (.int 1) = true)⟩
    · obtain ⟨a, b⟩ := kft_c hn hsl hk (by decide)
      rw [ftc1 b]
      exact ⟨a, rfl, rfl⟩
    · obtain ⟨a, b⟩ := kft_c hn hsl hk (by decide)
      obtain ⟨n, hn'⟩ := ftc3 b
      rw [hn']
      exact ⟨a, rfl, rfl⟩
  refine va_put hx hcc hts (kU ci hn) (kTy ci) (kty ci hn) (knm ci hn) hown (sK_at hE hwm) hW.1 (wld_D E μ) hS (kof q.1 q.2) (cell_o hn hq hl) (kcl ci hn) sl hsl (hts _ hlink) (fun x h => by rw [(kfc ci hn sl hsl).1] at h; exact h) hty.1 (kty ci hn sl hsl) hty.2.1 hty.2.2 (by simpa using hsl) hd ?_
  intro H1 locs1 hP1 hD1 hS1
  have hlow1 := low_of hlow hsz hS1
  rw [sad_ne (by omega)] at hP1
  refine K H1 locs1 ls ⟨?_, hS1, sl_tail (sl_tail hst), hlo, hls⟩
  rcases hv with ⟨x, rfl, hk, rfl⟩ | ⟨x, rfl, hk, rfl⟩ | ⟨x, rfl, hk, hx1, hx0, rfl⟩
  · refine sW_field hW hl hn hq hP1 ?_ (fun a b c h => by rw [rI_wI, if_neg h]) (fun _ _ _ _ => rfl) (fun _ _ _ _ => rfl) hlow1 (fun k i j n a b => hW.2.2.2 k i j n a b)
    unfold fval
    rcases hk with hk | ⟨hk, -⟩ <;> rw [hk] <;> (show Value.int (rI _ _ _ _) = _; rw [rI_wI, if_pos ⟨rfl, rfl, rfl⟩]; rfl)
  · refine sW_field hW hl hn hq hP1 ?_ (fun _ _ _ _ => rfl) (fun a b c h => by rw [rL_wL, if_neg h]) (fun _ _ _ _ => rfl) hlow1 (fun k i j n a b => hW.2.2.2 k i j n a b)
    unfold fval
    rw [hk]
    show Value.long (rL _ _ _ _) = _
    rw [rL_wL, if_pos ⟨rfl, rfl, rfl⟩]
    rfl
  · refine sW_field hW hl hn hq hP1 ?_ (fun _ _ _ _ => rfl) (fun _ _ _ _ => rfl) (fun a b c h => by rw [rR_wR, if_neg h]) hlow1 ?_
    · unfold fval
      rw [hk]
      show (match rR _ _ _ _ with
        | 0 => Value.null
        | n + 1 => Value.ref (sad E ((kfr q.1 sl).1, n))) = _
      rw [rR_wR, if_pos ⟨rfl, rfl, rfl⟩, ← hx1]
      rfl
    · intro k i j n a b
      rw [rR_wR] at b
      by_cases z : k = q.1 ∧ j = sl ∧ i = q.2
      · rw [if_pos z] at b
        rw [z.1, z.2.1, ← hx1, show n = x.2 by omega]
        exact sl_ref (sl_head hst) hx0
      · rw [if_neg z] at b
        exact hW.2.2.2 k i j n a b
theorem w_ald {bb t0 : Nat} {cA : ClassId} {ins : Instr} {ty : FieldType} (A : sAt E nL s lo st μ H locs ls) (he : e_iald bb lo st μ = some (lo', st', μ')) (hb : bb ≠ 0) (hent : ∀ q : Nat × Nat, kar q.1 = bb → ent E μ q = .inl (cA, kln q.1, .inl (rI μ q.1 q.2)))
    (row : ∀ (q0 a n : Nat) (f : Nat → Int32) (i : Int32) (rest : List Value), (wld E μ)[q0]? = some (a, .inl (cA, n, .inl f)) → vp_in i n → W p l e R s m args below meth c H locs cells slots Q (F0 m (pc + 1) ls (.int (f i.toNatClampNeg) :: rest)) → W p l e R s m args below meth c H locs cells slots Q (F0 m pc ls (.int i :: .ref a :: rest)))
    (K : ∀ (H : Heap) (locs : List Loc) (ls : Array Slot), sAt E nL s lo' st' μ' H locs ls → W p l e R s m args below meth c H locs cells slots Q (F0 m (pc + 1) ls (st'.map (gm E)))) :
    W p l e R s m args below meth c H locs cells slots Q (F0 m pc ls (st.map (gm E))) := by
  obtain ⟨hW, hS, hst, hlo, hls⟩ := A
  obtain ⟨i, q, t, rfl, rfl, rfl, rfl, hk, hi⟩ := i_iald he
  have hk0 := kar_0 hk hb
  have hl : q.2 < kni q.1 := sl_ref (sl_head (sl_tail hst)) hk0
  refine row (kof q.1 q.2) (sad E q) (kln q.1) (rI μ' q.1 q.2) i _ ?_ (inb_in hi) (K H locs ls ⟨hW, hS, sl_cons trivial (sl_tail (sl_tail hst)), hlo, hls⟩)
  rw [wld_at E μ' hl, hent q hk, sad_ne hk0]
theorem w_ast {bb : Nat} {f : Int32 → Int32} {cA : ClassId} (C : sCx E p s m args c own cc nL) (A : sAt E nL s lo st μ H locs ls) (he : e_iast bb f lo st μ = some (lo', st', μ')) (hb : bb ≠ 0) (hent : ∀ (ν : sM) (q : Nat × Nat), kar q.1 = bb → ent E ν q = .inl (cA, kln q.1, .inl (rI ν q.1 q.2)))
    (row : ∀ (q0 a n : Nat) (g : Nat → Int32) (i x : Int32) (rest : List Value), (wld E μ)[q0]? = some (a, .inl (cA, n, .inl g)) → vp_in i n → (∀ (H1 : Heap) (locs1 : List Loc), va_P (eD E) vwCl ((wld E μ).set q0 (a, .inl (cA, n, .inl (upd g i.toNatClampNeg (f x))))) H1 → va_S (sA E) s.heap H1 locs1 → W p l e R s m args below meth c H1 locs1 cells slots Q (F0 m (pc + 1) ls rest)) → W p l e R s m args below meth c H locs cells slots Q (F0 m pc ls (.int x :: .int i :: .ref a :: rest)))
    (K : ∀ (H : Heap) (locs : List Loc) (ls : Array Slot), sAt E nL s lo' st' μ' H locs ls → W p l e R s m args below meth c H locs cells slots Q (F0 m (pc + 1) ls (st'.map (gm E)))) :
    W p l e R s m args below meth c H locs cells slots Q (F0 m pc ls (st.map (gm E))) := by
  obtain ⟨hx, hcc, hml, hown, hts, hwm, hlow, hsz⟩ := C
  obtain ⟨hW, hS, hst, hlo, hls⟩ := A
  obtain ⟨x, i, q, t, rfl, rfl, rfl, rfl, hk, hi⟩ := i_iast he
  have hk0 := kar_0 hk hb
  have hl : q.2 < kni q.1 := sl_ref (sl_head (sl_tail (sl_tail hst))) hk0
  refine row (kof q.1 q.2) (sad E q) (kln q.1) (rI μ q.1 q.2) i x _ ?_ (inb_in hi) ?_
  · rw [wld_at E μ hl, hent μ q hk, sad_ne hk0]
  · intro H1 locs1 hP1 hS1
    rw [sad_ne hk0] at hP1
    exact K H1 locs1 ls ⟨sW_iast hW hl (fun ν => hent ν q hk) hP1 (low_of hlow hsz hS1), hS1, sl_tail (sl_tail (sl_tail hst)), hlo, hls⟩
theorem tys_at (k : Nat) : ∃ ty : FieldType, (tys E)[kat k]? = some (eT E (kat k), ty) ∧ ty.isReference = true := by
  unfold kat
  split
  · exact ⟨_, rfl, rfl⟩
  · split
    · exact ⟨_, rfl, rfl⟩
    · exact ⟨_, rfl, rfl⟩
end S1
