/-! 08: s1, and blocks -/
theorem kCI_any {own k : Nat} {x : Int32} (h : kCI.any (fun r => r.2.1 == own && (r.2.2.1 == k && decide (r.2.2.2 = x))) = true) : Cond.constant (kRn own) k x ∈ sT := by
  obtain ⟨r, hr, h1⟩ := List.any_eq_true.mp h
  simp only [Bool.and_eq_true, beq_iff_eq, decide_eq_true_eq] at h1
  obtain ⟨a1, a2, a3⟩ := h1
  have h2 := kCIok r hr
  rw [a1, a2, a3] at h2
  exact sT_in h2 rfl
theorem kCL_any {own k : Nat} {x : Int64} (h : kCL.any (fun r => r.2.1 == own && (r.2.2.1 == k && decide (r.2.2.2 = x))) = true) : Cond.constantLong (kRn own) k x ∈ sT := by
  obtain ⟨r, hr, h1⟩ := List.any_eq_true.mp h
  simp only [Bool.and_eq_true, beq_iff_eq, decide_eq_true_eq] at h1
  obtain ⟨a1, a2, a3⟩ := h1
  have h2 := kCLok r hr
  rw [a1, a2, a3] at h2
  exact sT_in h2 rfl
set_option maxHeartbeats 4000000 in
theorem s1 {own : Nat} {cc : ByteArray} {nL d : Nat} {bl : Bool} {pc : Nat} {q : sO} {lo lo' : sL} {st st' : List sV} {μ μ' : sM} {o : Option (Option sV × sM)} (hb : bk1 cc own pc q = true) (he : ev1 nL q lo st μ = some (lo', st', μ'))
    (k : sOk own cc nL d bl (pc + iln q.1) lo' st' μ' o) : sOk own cc nL d bl pc lo st μ o := by
  intro r ρ ho E p l e R s m args below meth c cells slots Q G H locs ls A
  have K := k r ρ ho E p l e R s m args below meth c cells slots Q G
  obtain ⟨hE, C, hR, -⟩ := G
  unfold bk1 at hb
  rw [Bool.and_eq_true] at hb
  obtain ⟨hd, ha⟩ := hb
  have hd := of_decide_eq_true hd
  obtain ⟨ins, ci, sl, ic, lc⟩ := q
  have C' := C
  have A' := A
  obtain ⟨hx, hcc, hml, hown, hts, hwm, hlow, hsz⟩ := C
  obtain ⟨hW, hS, hst, hlo, hls⟩ := A
  have hK := sK_at hE hwm
  cases ins with
  | iload_n n =>
    obtain ⟨x, h1, rfl, rfl, rfl⟩ := i_il he
    exact lv_iload_n hx hcc hd rfl (lk_at hls h1) (K H locs ls ⟨hW, hS, sl_cons trivial hst, hlo, hls⟩)
  | iload n =>
    obtain ⟨x, h1, rfl, rfl, rfl⟩ := i_il he
    exact lv_iload hx hcc hd (lk_at hls h1) (K H locs ls ⟨hW, hS, sl_cons trivial hst, hlo, hls⟩)
  | lload_n n =>
    obtain ⟨x, h1, rfl, rfl, rfl⟩ := i_ll he
    exact lv_lload_n hx hcc hd rfl (lk_at hls h1) (K H locs ls ⟨hW, hS, sl_cons trivial hst, hlo, hls⟩)
  | lload n =>
    obtain ⟨x, h1, rfl, rfl, rfl⟩ := i_ll he
    exact lv_lload hx hcc hd (lk_at hls h1) (K H locs ls ⟨hW, hS, sl_cons trivial hst, hlo, hls⟩)
  | aload_n n =>
    obtain ⟨x, h1, rfl, rfl, rfl⟩ := i_al he
    exact lv_aload_n hx hcc hd rfl (lk_at hls h1) (K H locs ls ⟨hW, hS, sl_cons (hlo _ (lk_mem h1)) hst, hlo, hls⟩)
  | aload n =>
    obtain ⟨x, h1, rfl, rfl, rfl⟩ := i_al he
    exact lv_aload hx hcc hd (lk_at hls h1) (K H locs ls ⟨hW, hS, sl_cons (hlo _ (lk_mem h1)) hst, hlo, hls⟩)
  | istore_n n =>
    obtain ⟨x, rfl, rfl, rfl, hn⟩ := i_is he
    exact lv_istore_n hx hcc hd rfl hls hn (ls1_gm E n.val (.inl x) lo) (fun ls1 h1 => K H locs ls1 ⟨hW, hS, sl_tail hst, sl_ls1 trivial hlo, h1⟩)
  | istore n =>
    obtain ⟨x, rfl, rfl, rfl, hn⟩ := i_is he
    exact lv_istore hx hcc hd hls hn (ls1_gm E n (.inl x) lo) (fun ls1 h1 => K H locs ls1 ⟨hW, hS, sl_tail hst, sl_ls1 trivial hlo, h1⟩)
  | lstore_n n =>
    obtain ⟨x, rfl, rfl, rfl, hn⟩ := i_ls he
    exact lv_lstore_n hx hcc hd rfl hls hn (ls2_gm E n.val (.inr (.inl x)) lo) (fun ls1 h1 => K H locs ls1 ⟨hW, hS, sl_tail hst, sl_ls2 trivial hlo, h1⟩)
  | lstore n =>
    obtain ⟨x, rfl, rfl, rfl, hn⟩ := i_ls he
    exact lv_lstore hx hcc hd hls hn (ls2_gm E n (.inr (.inl x)) lo) (fun ls1 h1 => K H locs ls1 ⟨hW, hS, sl_tail hst, sl_ls2 trivial hlo, h1⟩)
  | astore_n n =>
    obtain ⟨x, rfl, rfl, rfl, hn⟩ := i_as he
    exact lv_astore_n hx hcc hd rfl hls hn (ls1_gm E n.val (.inr (.inr x)) lo) (fun ls1 h1 => K H locs ls1 ⟨hW, hS, sl_tail hst, sl_ls1 (sl_head hst) hlo, h1⟩)
  | astore n =>
    obtain ⟨x, rfl, rfl, rfl, hn⟩ := i_as he
    exact lv_astore hx hcc hd hls hn (ls1_gm E n (.inr (.inr x)) lo) (fun ls1 h1 => K H locs ls1 ⟨hW, hS, sl_tail hst, sl_ls1 (sl_head hst) hlo, h1⟩)
  | iinc i n =>
    obtain ⟨x, h1, rfl, rfl, rfl, hn⟩ := i_inc he
    obtain ⟨z, hz⟩ := lk_pl (E := E) h1
    exact lv_iinc hx hcc hd hls hz (by rw [of_decide_eq_true ha]) hn (ls1_gm E i (.inl (x + ic)) lo) (fun ls1 h1 => K H locs ls1 ⟨hW, hS, hst, sl_ls1 trivial hlo, h1⟩)
  | iconst n =>
    cases he
    exact lv_iconst hx hcc hd (of_decide_eq_true ha) (K H locs ls ⟨hW, hS, sl_cons trivial hst, hlo, hls⟩)
  | bipush n =>
    cases he
    exact lv_bipush hx hcc hd (of_decide_eq_true ha) (K H locs ls ⟨hW, hS, sl_cons trivial hst, hlo, hls⟩)
  | sipush n =>
    cases he
    exact lv_sipush hx hcc hd (of_decide_eq_true ha) (K H locs ls ⟨hW, hS, sl_cons trivial hst, hlo, hls⟩)
  | ldc n =>
    cases he
    exact lv_ldc hx hcc hown (hts _ (kCI_any ha)) hd (K H locs ls ⟨hW, hS, sl_cons trivial hst, hlo, hls⟩)
  | ldc_w n =>
    cases he
    exact lv_ldcw hx hcc hown (hts _ (kCI_any ha)) hd (K H locs ls ⟨hW, hS, sl_cons trivial hst, hlo, hls⟩)
  | lconst n =>
    cases he
    exact lv_lconst hx hcc hd (of_decide_eq_true ha) (K H locs ls ⟨hW, hS, sl_cons trivial hst, hlo, hls⟩)
  | ldc2_w n =>
    cases he
    exact lv_ldc2 hx hcc hown (hts _ (kCL_any ha)) hd (K H locs ls ⟨hW, hS, sl_cons trivial hst, hlo, hls⟩)
  | iadd =>
    obtain ⟨x, y, t, rfl, rfl, rfl, rfl⟩ := i_ii he
    exact lv_iadd hx hcc hd (K H locs ls ⟨hW, hS, sl_cons trivial (sl_tail (sl_tail hst)), hlo, hls⟩)
  | isub =>
    obtain ⟨x, y, t, rfl, rfl, rfl, rfl⟩ := i_ii he
    exact lv_isub hx hcc hd (K H locs ls ⟨hW, hS, sl_cons trivial (sl_tail (sl_tail hst)), hlo, hls⟩)
  | imul =>
    obtain ⟨x, y, t, rfl, rfl, rfl, rfl⟩ := i_ii he
    exact lv_imul hx hcc hd (K H locs ls ⟨hW, hS, sl_cons trivial (sl_tail (sl_tail hst)), hlo, hls⟩)
  | iand =>
    obtain ⟨x, y, t, rfl, rfl, rfl, rfl⟩ := i_ii he
    exact lv_iand hx hcc hd (K H locs ls ⟨hW, hS, sl_cons trivial (sl_tail (sl_tail hst)), hlo, hls⟩)
  | ior =>
    obtain ⟨x, y, t, rfl, rfl, rfl, rfl⟩ := i_ii he
    exact lv_ior hx hcc hd (K H locs ls ⟨hW, hS, sl_cons trivial (sl_tail (sl_tail hst)), hlo, hls⟩)
  | ishl =>
    obtain ⟨x, y, t, rfl, rfl, rfl, rfl⟩ := i_ii he
    exact lv_ishl hx hcc hd (K H locs ls ⟨hW, hS, sl_cons trivial (sl_tail (sl_tail hst)), hlo, hls⟩)
  | ishr =>
    obtain ⟨x, y, t, rfl, rfl, rfl, rfl⟩ := i_ii he
    exact lv_ishr hx hcc hd (K H locs ls ⟨hW, hS, sl_cons trivial (sl_tail (sl_tail hst)), hlo, hls⟩)
  | idiv =>
    obtain ⟨x, y, t, rfl, rfl, rfl, rfl, hy⟩ := i_id he
    exact lv_idiv hx hcc hd hy (K H locs ls ⟨hW, hS, sl_cons trivial (sl_tail (sl_tail hst)), hlo, hls⟩)
  | irem =>
    obtain ⟨x, y, t, rfl, rfl, rfl, rfl, hy⟩ := i_id he
    exact lv_irem hx hcc hd hy (K H locs ls ⟨hW, hS, sl_cons trivial (sl_tail (sl_tail hst)), hlo, hls⟩)
  | ladd =>
    obtain ⟨x, y, t, rfl, rfl, rfl, rfl⟩ := i_lL he
    exact lv_ladd hx hcc hd (K H locs ls ⟨hW, hS, sl_cons trivial (sl_tail (sl_tail hst)), hlo, hls⟩)
  | lsub =>
    obtain ⟨x, y, t, rfl, rfl, rfl, rfl⟩ := i_lL he
    exact lv_lsub hx hcc hd (K H locs ls ⟨hW, hS, sl_cons trivial (sl_tail (sl_tail hst)), hlo, hls⟩)
  | lmul =>
    obtain ⟨x, y, t, rfl, rfl, rfl, rfl⟩ := i_lL he
    exact lv_lmul hx hcc hd (K H locs ls ⟨hW, hS, sl_cons trivial (sl_tail (sl_tail hst)), hlo, hls⟩)
  | land =>
    obtain ⟨x, y, t, rfl, rfl, rfl, rfl⟩ := i_lL he
    exact lv_land hx hcc hd (K H locs ls ⟨hW, hS, sl_cons trivial (sl_tail (sl_tail hst)), hlo, hls⟩)
  | lor =>
    obtain ⟨x, y, t, rfl, rfl, rfl, rfl⟩ := i_lL he
    exact lv_lor hx hcc hd (K H locs ls ⟨hW, hS, sl_cons trivial (sl_tail (sl_tail hst)), hlo, hls⟩)
  | ldiv =>
    obtain ⟨x, y, t, rfl, rfl, rfl, rfl, hy⟩ := i_lD he
    exact lv_ldiv hx hcc hd hy (K H locs ls ⟨hW, hS, sl_cons trivial (sl_tail (sl_tail hst)), hlo, hls⟩)
  | lrem =>
    obtain ⟨x, y, t, rfl, rfl, rfl, rfl, hy⟩ := i_lD he
    exact lv_lrem hx hcc hd hy (K H locs ls ⟨hW, hS, sl_cons trivial (sl_tail (sl_tail hst)), hlo, hls⟩)
  | ineg =>
    obtain ⟨x, t, rfl, rfl, rfl, rfl⟩ := i_u he
    exact lv_ineg hx hcc hd (K H locs ls ⟨hW, hS, sl_cons trivial (sl_tail hst), hlo, hls⟩)
  | i2l =>
    obtain ⟨x, t, rfl, rfl, rfl, rfl⟩ := i_u he
    exact lv_i2l hx hcc hd rfl (K H locs ls ⟨hW, hS, sl_cons trivial (sl_tail hst), hlo, hls⟩)
  | i2b =>
    obtain ⟨x, t, rfl, rfl, rfl, rfl⟩ := i_u he
    exact lv_i2b hx hcc hd rfl (K H locs ls ⟨hW, hS, sl_cons trivial (sl_tail hst), hlo, hls⟩)
  | i2s =>
    obtain ⟨x, t, rfl, rfl, rfl, rfl⟩ := i_u he
    exact lv_i2s hx hcc hd rfl (K H locs ls ⟨hW, hS, sl_cons trivial (sl_tail hst), hlo, hls⟩)
  | l2i =>
    obtain ⟨x, t, rfl, rfl, rfl, rfl⟩ := i_U he
    exact lv_l2i hx hcc hd rfl (K H locs ls ⟨hW, hS, sl_cons trivial (sl_tail hst), hlo, hls⟩)
  | lneg =>
    obtain ⟨x, t, rfl, rfl, rfl, rfl⟩ := i_U he
    exact lv_lneg hx hcc hd (K H locs ls ⟨hW, hS, sl_cons trivial (sl_tail hst), hlo, hls⟩)
  | lcmp =>
    obtain ⟨x, y, t, rfl, rfl, rfl, rfl⟩ := i_lcmp he
    exact W.lcmp hx hcc hd (K H locs ls ⟨hW, hS, sl_cons trivial (sl_tail (sl_tail hst)), hlo, hls⟩)
  | lshl =>
    obtain ⟨x, y, t, rfl, rfl, rfl, rfl⟩ := i_lshl he
    exact lv_lshl hx hcc hd rfl (K H locs ls ⟨hW, hS, sl_cons trivial (sl_tail (sl_tail hst)), hlo, hls⟩)
  | dup =>
    obtain ⟨v, t, rfl, rfl, rfl, rfl, h2⟩ := i_dup he
    exact lv_dup hx hcc hd (ct1 h2) (K H locs ls ⟨hW, hS, sl_cons (sl_head hst) hst, hlo, hls⟩)
  | pop =>
    obtain ⟨v, t, rfl, rfl, rfl, rfl, h2⟩ := i_pop he
    exact lv_pop hx hcc hd (ct1 h2) (K H locs ls ⟨hW, hS, sl_tail hst, hlo, hls⟩)
  | dup2 =>
    obtain ⟨v, w, t, rfl, rfl, rfl, rfl, h2, h3⟩ := i_dup2 he
    exact lv_dup2_11 hx hcc hd (ct1 h2) (ct1 h3) (K H locs ls ⟨hW, hS, sl_cons (sl_head hst) (sl_cons (sl_head (sl_tail hst)) hst), hlo, hls⟩)
  | getfield n => exact w_get hE C' A' hd ha he K
  | putfield n => exact w_put hE C' A' hd ha he K
  | iaload =>
    exact w_ald (cA := eT E 0) (ins := .iaload) (t0 := 0) (ty := .int) A' he (by decide) (fun q h => ent_i h) (fun q0 a n f i rest h1 h2 k2 => va_iald hx hcc hK hW.1 q0 0 h1 rfl h2 hd k2) K
  | baload =>
    exact w_ald (cA := eT E 2) (ins := .baload) (t0 := 2) (ty := .byte) A' he (by decide) (fun q h => ent_b h) (fun q0 a n f i rest h1 h2 k2 => va_bald hx hcc hK hW.1 q0 2 h1 rfl h2 hd k2) K
  | laload =>
    obtain ⟨i, q, t, rfl, rfl, rfl, rfl, hk, hi⟩ := i_lald he
    have hk0 := kar_0 hk (by decide)
    have hl : q.2 < kni q.1 := sl_ref (sl_head (sl_tail hst)) hk0
    refine va_lald (f := rL μ' q.1 q.2) hx hcc hK hW.1 (kof q.1 q.2) 1 (n := kln q.1) (cA := eT E 1) ?_ rfl (inb_in hi) hd (K H locs ls ⟨hW, hS, sl_cons trivial (sl_tail (sl_tail hst)), hlo, hls⟩)
    rw [wld_at E μ' hl, ent_l hk, sad_ne hk0]
  | aaload =>
    obtain ⟨i, q, t, rfl, rfl, rfl, rfl, hk, hi⟩ := i_aald he
    have hk0 := kar_0 hk (by decide)
    have hl : q.2 < kni q.1 := sl_ref (sl_head (sl_tail hst)) hk0
    have hk80 : q.1 < 80 := by
      rcases Nat.lt_or_ge q.1 80 with z | z
      · exact z
      · rw [kni_big _ z] at hl; omega
    have hin := inb_in hi
    have hlt : i.toNatClampNeg < kln q.1 := Nat.not_le.mp fun z => hin (Or.inr z)
    obtain ⟨ty, ht, hty⟩ := tys_at (E := E) q.1
    have hcell : (wld E μ')[kof q.1 q.2]? = some (sad E q, .inl (eT E (kat q.1), kln q.1, .inr (.inr (.inr (.inr (fun j => some (sad E ((kae q.1).1, (kae q.1).2 + j)))))))) := by
      rw [wld_at E μ' hl, ent_a hk, sad_ne hk0]
    have hll := kael q.1 hk80 hk _ hlt
    exact W.aald (v := va_rf (some (sad E ((kae q.1).1, (kae q.1).2 + i.toNatClampNeg)))) (ty := ty) hx hcc (hW.1 _ _ hcell) ((hK.2 _ _ ht).1 (kln q.1) (fun j => va_rf (some (sad E ((kae q.1).1, (kae q.1).2 + j))))) hty (fun z => by cases z)
      (by show ¬ (i < 0 ∨ (arrV _ _ _).slots.size ≤ _); rw [arrV_size]; exact hin) (by show (arrV _ _ _).slots[_]? = _; rw [arrV_read _ _ hlt]) rfl rfl hd (K H locs ls ⟨hW, hS, sl_cons (Or.inl hll) (sl_tail (sl_tail hst)), hlo, hls⟩)
  | iastore =>
    exact w_ast (cA := eT E 0) C' A' he (by decide) (fun ν q h => ent_i h) (fun q0 a n g i x rest h1 h2 k2 => va_iast hx hcc hK hW.1 (wld_D E μ) hS q0 0 h1 rfl h2 hd (fun H1 l1 a1 _ a3 => k2 H1 l1 a1 a3)) K
  | bastore =>
    exact w_ast (cA := eT E 2) C' A' he (by decide) (fun ν q h => ent_b h) (fun q0 a n g i x rest h1 h2 k2 => va_bast hx hcc hK hW.1 (wld_D E μ) hS q0 2 h1 rfl h2 hd (fun H1 l1 a1 _ a3 => k2 H1 l1 (by rw [← vp_nar_byte]; exact a1) a3)) K
  | lastore =>
    obtain ⟨x, i, q, t, rfl, rfl, rfl, rfl, hk, hi⟩ := i_last he
    have hk0 := kar_0 hk (by decide)
    have hl : q.2 < kni q.1 := sl_ref (sl_head (sl_tail (sl_tail hst))) hk0
    refine va_last (f := rL μ q.1 q.2) hx hcc hK hW.1 (wld_D E μ) hS (kof q.1 q.2) 1 (n := kln q.1) (cA := eT E 1) ?_ rfl (inb_in hi) hd ?_
    · rw [wld_at E μ hl, ent_l hk, sad_ne hk0]
    · intro H1 locs1 hP1 _ hS1
      rw [sad_ne hk0] at hP1
      exact K H1 locs1 ls ⟨sW_last hW hl (fun ν => ent_l hk) hP1 (low_of hlow hsz hS1), hS1, sl_tail (sl_tail (sl_tail hst)), hlo, hls⟩
  | _ => cases he
theorem evp_cons (pc : Nat) (q : sO) (t : List sO) : evp pc (q :: t) = evp (pc + iln q.1) t := rfl
/-- a straight stretch -/
theorem sBk {own : Nat} {cc : ByteArray} {nL d : Nat} {bl : Bool} {o : Option (Option sV × sM)} {lo' : sL} {st' : List sV} {μ' : sM} {pc' : Nat} : ∀ (ops : List sO) {pc : Nat} {lo : sL} {st : List sV} {μ : sM}, bk cc own pc ops = true → ev nL ops lo st μ = some (lo', st', μ') → evp pc ops = pc' →
    sOk own cc nL d bl pc' lo' st' μ' o → sOk own cc nL d bl pc lo st μ o
  | [], pc, lo, st, μ, _, he, hp, k => by
    cases he
    cases hp
    exact k
  | q :: t, pc, lo, st, μ, hb, he, hp, k => by
    unfold bk at hb
    rw [Bool.and_eq_true] at hb
    unfold ev at he
    split at he
    · rename_i lo1 st1 μ1 h1
      exact s1 hb.1 h1 (sBk t hb.2 he hp k)
    · cases he
