/-! 98zw: constructors with loops (written by gencon.py) -/
section C98zw
variable {E : sE}
/-- ClockRiver$Ahead: what its constructor makes -/
def oX0 (E : sE) (n : Nat) : List va_E := [.inr (0, [.ref (ad E (n + 1)), .int 0, .int 0, .int 0, .ref (ad E (n + 2)), .ref (ad E (n + 3)), .int 0, .int 0, .int 0, .int 0, .int 0, .int 0]), aQ E 3 5 (va_up (va_up (va_up (va_up (va_up (fun _ => none) (0 : Int32).toNatClampNeg (some (ad E (n + 4)))) (1 : Int32).toNatClampNeg (some (ad E (n + 24)))) (2 : Int32).toNatClampNeg (some (ad E (n + 44)))) (3 : Int32).toNatClampNeg (some (ad E (n + 64)))) (4 : Int32).toNatClampNeg (some (ad E (n + 84)))), aI E 4, aI E 4] ++ (oX4 E (n + 4) ++ (oX4 E (n + 24) ++ (oX4 E (n + 44) ++ (oX4 E (n + 64) ++ (oX4 E (n + 84))))))
theorem yi0 : yI yX0_init cX0_init 2 := ⟨sT_in (n := 533) (by decide +kernel) rfl, sT_in (n := 147) (by decide +kernel) rfl, sT_in (n := 532) (by decide +kernel) rfl, by decide +kernel, by decide, rfl⟩
set_option maxRecDepth 100000 in
set_option maxHeartbeats 4000000 in
theorem k_X0 (hX : cX E) {l : Launch} (hE : sEn E) (ws0 : List va_E) (n : Nat) (hn : ws0.length = n) : cM l E yX0_init cX0_init 2 3 103 638 n (ws0 ++ [.inr (0, bX0)]) (ws0 ++ oX0 E n) := by
  refine cM_of (own := 0) hE (by decide +kernel) rfl rfl (by decide) ?_
  intro p e R s m args below meth c Q C hR fin H ls A hl
  obtain ⟨r1, r2⟩ := hR
  obtain ⟨hx, hb, -⟩ := C.2.1
  have hl : lv_has ls 2 [(0, .ref (ad E (n + 0)))] := hl
  have hAO3 := hX.ao (i := 527) (C0 := "ClockRiver$River") (by decide +kernel)
  have hAO4 := hX.ao (i := 528) (C0 := "ClockRiver$Weeks") (by decide +kernel)
  obtain ⟨locs, hlocs⟩ : ∃ locs : List Loc, locs = [] := ⟨_, rfl⟩
  rw [← hlocs] at A ⊢
  have A : cAt E s (ws0 ++ ([.inr (0, [.null, .int 0, .int 0, .int 0, .null, .null, .int 0, .int 0, .int 0, .int 0, .int 0, .int 0])])) H locs := A
  refine lv_aload_n (k := 0) hx hb (by decide +kernel) rfl (lv_at hl 0 rfl) ?_
  refine cObj (idx := 3) C (sT_in (n := 534) (by decide +kernel) rfl) (by decide) hl.1 (by decide) (by decide +kernel) ?_
  refine lv_aload_n (k := 0) hx hb (by decide +kernel) rfl (lv_at hl 0 rfl) ?_
  refine lv_iconst (n := 5) (v := 5) hx hb (by decide +kernel) (by decide) ?_
  refine cArQ (C0 := "ClockRiver$River") (idx := 9) (k := 1) (t0 := 3) (N := 5) hAO3 C hn A rfl (sT_in (n := 535) (by decide +kernel) rfl) rfl (by decide) (by decide) (by decide) (by omega) (by omega) (by decide +kernel) (fun H A => ?_)
  have A : cAt E s (ws0 ++ ([.inr (0, [.null, .int 0, .int 0, .int 0, .null, .null, .int 0, .int 0, .int 0, .int 0, .int 0, .int 0]), aQ E 3 5 (fun _ => none)])) H locs := A
  refine cPutF (idx := 11) (j := 0) (sl := 0) C hn A rfl (by decide) (by decide) (sT_in (n := 537) (by decide +kernel) rfl) rfl rfl rfl (Nat.le_of_ble_eq_true rfl) (by decide +kernel) (fun H locs A => ?_)
  have A : cAt E s (ws0 ++ ([.inr (0, [.ref (ad E (n + 1)), .int 0, .int 0, .int 0, .null, .null, .int 0, .int 0, .int 0, .int 0, .int 0, .int 0]), aQ E 3 5 (fun _ => none)])) H locs := A
  refine lv_aload_n (k := 0) hx hb (by decide +kernel) rfl (lv_at hl 0 rfl) ?_
  refine lv_iconst (n := 4) (v := 4) hx hb (by decide +kernel) (by decide) ?_
  refine cArI (k := 2) (N := 4) C hn A rfl (by decide +kernel) (by decide) (by decide) (by decide) (by omega) (by omega) (fun H A => ?_)
  have A : cAt E s (ws0 ++ ([.inr (0, [.ref (ad E (n + 1)), .int 0, .int 0, .int 0, .null, .null, .int 0, .int 0, .int 0, .int 0, .int 0, .int 0]), aQ E 3 5 (fun _ => none), aI E 4])) H locs := A
  refine cPutF (idx := 17) (j := 0) (sl := 4) C hn A rfl (by decide) (by decide) (sT_in (n := 544) (by decide +kernel) rfl) rfl rfl rfl (Nat.le_of_ble_eq_true rfl) (by decide +kernel) (fun H locs A => ?_)
  have A : cAt E s (ws0 ++ ([.inr (0, [.ref (ad E (n + 1)), .int 0, .int 0, .int 0, .ref (ad E (n + 2)), .null, .int 0, .int 0, .int 0, .int 0, .int 0, .int 0]), aQ E 3 5 (fun _ => none), aI E 4])) H locs := A
  refine lv_aload_n (k := 0) hx hb (by decide +kernel) rfl (lv_at hl 0 rfl) ?_
  refine lv_iconst (n := 4) (v := 4) hx hb (by decide +kernel) (by decide) ?_
  refine cArI (k := 3) (N := 4) C hn A rfl (by decide +kernel) (by decide) (by decide) (by decide) (by omega) (by omega) (fun H A => ?_)
  have A : cAt E s (ws0 ++ ([.inr (0, [.ref (ad E (n + 1)), .int 0, .int 0, .int 0, .ref (ad E (n + 2)), .null, .int 0, .int 0, .int 0, .int 0, .int 0, .int 0]), aQ E 3 5 (fun _ => none), aI E 4, aI E 4])) H locs := A
  refine cPutF (idx := 21) (j := 0) (sl := 5) C hn A rfl (by decide) (by decide) (sT_in (n := 546) (by decide +kernel) rfl) rfl rfl rfl (Nat.le_of_ble_eq_true rfl) (by decide +kernel) (fun H locs A => ?_)
  have A : cAt E s (ws0 ++ ([.inr (0, [.ref (ad E (n + 1)), .int 0, .int 0, .int 0, .ref (ad E (n + 2)), .ref (ad E (n + 3)), .int 0, .int 0, .int 0, .int 0, .int 0, .int 0]), aQ E 3 5 (fun _ => none), aI E 4, aI E 4])) H locs := A
  refine lv_iconst (n := 0) (v := 0) hx hb (by decide +kernel) (by decide) ?_
  refine lv_istore_n (k := 1) hx hb (by decide +kernel) rfl hl (by decide) rfl (fun ls hl => ?_)
  have hl : lv_has ls 2 [(1, .int 0), (0, .ref (ad E (n + 0)))] := hl
  refine lv_iload_n (k := 1) hx hb (by decide +kernel) rfl (lv_at hl 0 rfl) ?_
  refine lv_aload_n (k := 0) hx hb (by decide +kernel) rfl (lv_at hl 1 rfl) ?_
  refine cGet (ci := 0) (idx := 11) (j := 0) (sl := 0) C hn A rfl (by decide) (by decide) (sT_in (n := 537) (by decide +kernel) rfl) rfl (by decide +kernel) ?_
  refine cAln (j := 1) (t0 := 3) (N := 5) (v := 5) C hn A rfl rfl (by decide) (by decide +kernel) ?_
  refine lv_icmp_ge (x := 0) (y := 5) (off := 22) (tgt := 56) hx hb (by decide +kernel) (by decide) (fun h => absurd h (by decide)) (fun _ => ?_)
  refine lv_aload_n (k := 0) hx hb (by decide +kernel) rfl (lv_at hl 1 rfl) ?_
  refine cGet (ci := 0) (idx := 11) (j := 0) (sl := 0) C hn A rfl (by decide) (by decide) (sT_in (n := 537) (by decide +kernel) rfl) rfl (by decide +kernel) ?_
  refine lv_iload_n (k := 1) hx hb (by decide +kernel) rfl (lv_at hl 0 rfl) ?_
  refine cNew (idx := 9) (k := 4) (ci := 4) (fs := bX4) (NN := 11) rfl C hn A rfl (by decide) (sT_in (n := 535) (by decide +kernel) rfl) (sT_in (n := 165) (by decide +kernel) rfl) (sT_in (n := 138) (by decide +kernel) rfl) df4 (by omega) (by omega) (by decide +kernel) (fun H A => ?_)
  have A : cAt E s (ws0 ++ ([.inr (0, [.ref (ad E (n + 1)), .int 0, .int 0, .int 0, .ref (ad E (n + 2)), .ref (ad E (n + 3)), .int 0, .int 0, .int 0, .int 0, .int 0, .int 0]), aQ E 3 5 (fun _ => none), aI E 4, aI E 4, .inr (4, bX4)])) H locs := A
  refine lv_dup hx hb (by decide +kernel) rfl ?_
  have M : cM l E yX4_init cX4_init 1 2 19 114 (n + 4) (ws0 ++ ([.inr (0, [.ref (ad E (n + 1)), .int 0, .int 0, .int 0, .ref (ad E (n + 2)), .ref (ad E (n + 3)), .int 0, .int 0, .int 0, .int 0, .int 0, .int 0]), aQ E 3 5 (fun _ => none), aI E 4, aI E 4, .inr (4, bX4)])) (ws0 ++ ([.inr (0, [.ref (ad E (n + 1)), .int 0, .int 0, .int 0, .ref (ad E (n + 2)), .ref (ad E (n + 3)), .int 0, .int 0, .int 0, .int 0, .int 0, .int 0]), aQ E 3 5 (fun _ => none), aI E 4, aI E 4] ++ (oX4 E (n + 4)))) := by
    have M := k_X4 hX (l := l) hE (ws0 ++ ([.inr (0, [.ref (ad E (n + 1)), .int 0, .int 0, .int 0, .ref (ad E (n + 2)), .ref (ad E (n + 3)), .int 0, .int 0, .int 0, .int 0, .int 0, .int 0]), aQ E 3 5 (fun _ => none), aI E 4, aI E 4])) (n + 4) (by rw [List.length_append, hn]; rfl)
    simp only [List.append_assoc] at M
    exact M
  refine cCalN (host := "ClockRiver") (idx := 24) (y := yX4_init) (hX.nest (i := 536) (by decide +kernel) rfl) C A M (by decide) yi4 (Nat.le_of_ble_eq_true rfl) hl.1 (by simp [Value.category]) (by omega) (by decide +kernel) (fun H locs A => ?_)
  have A : cAt E s (ws0 ++ ([.inr (0, [.ref (ad E (n + 1)), .int 0, .int 0, .int 0, .ref (ad E (n + 2)), .ref (ad E (n + 3)), .int 0, .int 0, .int 0, .int 0, .int 0, .int 0]), aQ E 3 5 (fun _ => none), aI E 4, aI E 4] ++ (oX4 E (n + 4)))) H locs := A
  refine cAas (j := 1) (jv := 4) (t0 := 3) (ci := 4) (N := 5) (i := 0) C hn A rfl rfl rfl (by decide) (by unfold vp_in; decide) (by decide +kernel) (fun H locs A => ?_)
  have A : cAt E s (ws0 ++ ([.inr (0, [.ref (ad E (n + 1)), .int 0, .int 0, .int 0, .ref (ad E (n + 2)), .ref (ad E (n + 3)), .int 0, .int 0, .int 0, .int 0, .int 0, .int 0]), aQ E 3 5 (va_up (fun _ => none) (0 : Int32).toNatClampNeg (some (ad E (n + 4)))), aI E 4, aI E 4] ++ (oX4 E (n + 4)))) H locs := A
  refine lv_iinc (k := 0) (x := 0) (v := 1) (n := 1) hx hb (by decide +kernel) hl rfl (by decide) (by decide) rfl (fun ls hl => ?_)
  have hl : lv_has ls 2 [(1, .int 1), (0, .ref (ad E (n + 0)))] := hl
  refine lv_goto (off := -25) (tgt := 28) hx hb (by decide +kernel) (by decide) ?_
  refine lv_iload_n (k := 1) hx hb (by decide +kernel) rfl (lv_at hl 0 rfl) ?_
  refine lv_aload_n (k := 0) hx hb (by decide +kernel) rfl (lv_at hl 1 rfl) ?_
  refine cGet (ci := 0) (idx := 11) (j := 0) (sl := 0) C hn A rfl (by decide) (by decide) (sT_in (n := 537) (by decide +kernel) rfl) rfl (by decide +kernel) ?_
  refine cAln (j := 1) (t0 := 3) (N := 5) (v := 5) C hn A rfl rfl (by decide) (by decide +kernel) ?_
  refine lv_icmp_ge (x := 1) (y := 5) (off := 22) (tgt := 56) hx hb (by decide +kernel) (by decide) (fun h => absurd h (by decide)) (fun _ => ?_)
  refine lv_aload_n (k := 0) hx hb (by decide +kernel) rfl (lv_at hl 1 rfl) ?_
  refine cGet (ci := 0) (idx := 11) (j := 0) (sl := 0) C hn A rfl (by decide) (by decide) (sT_in (n := 537) (by decide +kernel) rfl) rfl (by decide +kernel) ?_
  refine lv_iload_n (k := 1) hx hb (by decide +kernel) rfl (lv_at hl 0 rfl) ?_
  refine cNew (idx := 9) (k := 24) (ci := 4) (fs := bX4) (NN := 11) rfl C hn A rfl (by decide) (sT_in (n := 535) (by decide +kernel) rfl) (sT_in (n := 165) (by decide +kernel) rfl) (sT_in (n := 138) (by decide +kernel) rfl) df4 (by omega) (by omega) (by decide +kernel) (fun H A => ?_)
  have A : cAt E s (ws0 ++ ([.inr (0, [.ref (ad E (n + 1)), .int 0, .int 0, .int 0, .ref (ad E (n + 2)), .ref (ad E (n + 3)), .int 0, .int 0, .int 0, .int 0, .int 0, .int 0]), aQ E 3 5 (va_up (fun _ => none) (0 : Int32).toNatClampNeg (some (ad E (n + 4)))), aI E 4, aI E 4] ++ (oX4 E (n + 4) ++ ([.inr (4, bX4)])))) H locs := A
  refine lv_dup hx hb (by decide +kernel) rfl ?_
  have M : cM l E yX4_init cX4_init 1 2 19 114 (n + 24) (ws0 ++ ([.inr (0, [.ref (ad E (n + 1)), .int 0, .int 0, .int 0, .ref (ad E (n + 2)), .ref (ad E (n + 3)), .int 0, .int 0, .int 0, .int 0, .int 0, .int 0]), aQ E 3 5 (va_up (fun _ => none) (0 : Int32).toNatClampNeg (some (ad E (n + 4)))), aI E 4, aI E 4] ++ (oX4 E (n + 4) ++ ([.inr (4, bX4)])))) (ws0 ++ ([.inr (0, [.ref (ad E (n + 1)), .int 0, .int 0, .int 0, .ref (ad E (n + 2)), .ref (ad E (n + 3)), .int 0, .int 0, .int 0, .int 0, .int 0, .int 0]), aQ E 3 5 (va_up (fun _ => none) (0 : Int32).toNatClampNeg (some (ad E (n + 4)))), aI E 4, aI E 4] ++ (oX4 E (n + 4) ++ (oX4 E (n + 24))))) := by
    have M := k_X4 hX (l := l) hE (ws0 ++ ([.inr (0, [.ref (ad E (n + 1)), .int 0, .int 0, .int 0, .ref (ad E (n + 2)), .ref (ad E (n + 3)), .int 0, .int 0, .int 0, .int 0, .int 0, .int 0]), aQ E 3 5 (va_up (fun _ => none) (0 : Int32).toNatClampNeg (some (ad E (n + 4)))), aI E 4, aI E 4] ++ (oX4 E (n + 4)))) (n + 24) (by rw [List.length_append, hn]; rfl)
    simp only [List.append_assoc] at M
    exact M
  refine cCalN (host := "ClockRiver") (idx := 24) (y := yX4_init) (hX.nest (i := 536) (by decide +kernel) rfl) C A M (by decide) yi4 (Nat.le_of_ble_eq_true rfl) hl.1 (by simp [Value.category]) (by omega) (by decide +kernel) (fun H locs A => ?_)
  have A : cAt E s (ws0 ++ ([.inr (0, [.ref (ad E (n + 1)), .int 0, .int 0, .int 0, .ref (ad E (n + 2)), .ref (ad E (n + 3)), .int 0, .int 0, .int 0, .int 0, .int 0, .int 0]), aQ E 3 5 (va_up (fun _ => none) (0 : Int32).toNatClampNeg (some (ad E (n + 4)))), aI E 4, aI E 4] ++ (oX4 E (n + 4) ++ (oX4 E (n + 24))))) H locs := A
  refine cAas (j := 1) (jv := 24) (t0 := 3) (ci := 4) (N := 5) (i := 1) C hn A rfl rfl rfl (by decide) (by unfold vp_in; decide) (by decide +kernel) (fun H locs A => ?_)
  have A : cAt E s (ws0 ++ ([.inr (0, [.ref (ad E (n + 1)), .int 0, .int 0, .int 0, .ref (ad E (n + 2)), .ref (ad E (n + 3)), .int 0, .int 0, .int 0, .int 0, .int 0, .int 0]), aQ E 3 5 (va_up (va_up (fun _ => none) (0 : Int32).toNatClampNeg (some (ad E (n + 4)))) (1 : Int32).toNatClampNeg (some (ad E (n + 24)))), aI E 4, aI E 4] ++ (oX4 E (n + 4) ++ (oX4 E (n + 24))))) H locs := A
  refine lv_iinc (k := 0) (x := 1) (v := 2) (n := 1) hx hb (by decide +kernel) hl rfl (by decide) (by decide) rfl (fun ls hl => ?_)
  have hl : lv_has ls 2 [(1, .int 2), (0, .ref (ad E (n + 0)))] := hl
  refine lv_goto (off := -25) (tgt := 28) hx hb (by decide +kernel) (by decide) ?_
  refine lv_iload_n (k := 1) hx hb (by decide +kernel) rfl (lv_at hl 0 rfl) ?_
  refine lv_aload_n (k := 0) hx hb (by decide +kernel) rfl (lv_at hl 1 rfl) ?_
  refine cGet (ci := 0) (idx := 11) (j := 0) (sl := 0) C hn A rfl (by decide) (by decide) (sT_in (n := 537) (by decide +kernel) rfl) rfl (by decide +kernel) ?_
  refine cAln (j := 1) (t0 := 3) (N := 5) (v := 5) C hn A rfl rfl (by decide) (by decide +kernel) ?_
  refine lv_icmp_ge (x := 2) (y := 5) (off := 22) (tgt := 56) hx hb (by decide +kernel) (by decide) (fun h => absurd h (by decide)) (fun _ => ?_)
  refine lv_aload_n (k := 0) hx hb (by decide +kernel) rfl (lv_at hl 1 rfl) ?_
  refine cGet (ci := 0) (idx := 11) (j := 0) (sl := 0) C hn A rfl (by decide) (by decide) (sT_in (n := 537) (by decide +kernel) rfl) rfl (by decide +kernel) ?_
  refine lv_iload_n (k := 1) hx hb (by decide +kernel) rfl (lv_at hl 0 rfl) ?_
  refine cNew (idx := 9) (k := 44) (ci := 4) (fs := bX4) (NN := 11) rfl C hn A rfl (by decide) (sT_in (n := 535) (by decide +kernel) rfl) (sT_in (n := 165) (by decide +kernel) rfl) (sT_in (n := 138) (by decide +kernel) rfl) df4 (by omega) (by omega) (by decide +kernel) (fun H A => ?_)
  have A : cAt E s (ws0 ++ ([.inr (0, [.ref (ad E (n + 1)), .int 0, .int 0, .int 0, .ref (ad E (n + 2)), .ref (ad E (n + 3)), .int 0, .int 0, .int 0, .int 0, .int 0, .int 0]), aQ E 3 5 (va_up (va_up (fun _ => none) (0 : Int32).toNatClampNeg (some (ad E (n + 4)))) (1 : Int32).toNatClampNeg (some (ad E (n + 24)))), aI E 4, aI E 4] ++ (oX4 E (n + 4) ++ (oX4 E (n + 24) ++ ([.inr (4, bX4)]))))) H locs := A
  refine lv_dup hx hb (by decide +kernel) rfl ?_
  have M : cM l E yX4_init cX4_init 1 2 19 114 (n + 44) (ws0 ++ ([.inr (0, [.ref (ad E (n + 1)), .int 0, .int 0, .int 0, .ref (ad E (n + 2)), .ref (ad E (n + 3)), .int 0, .int 0, .int 0, .int 0, .int 0, .int 0]), aQ E 3 5 (va_up (va_up (fun _ => none) (0 : Int32).toNatClampNeg (some (ad E (n + 4)))) (1 : Int32).toNatClampNeg (some (ad E (n + 24)))), aI E 4, aI E 4] ++ (oX4 E (n + 4) ++ (oX4 E (n + 24) ++ ([.inr (4, bX4)]))))) (ws0 ++ ([.inr (0, [.ref (ad E (n + 1)), .int 0, .int 0, .int 0, .ref (ad E (n + 2)), .ref (ad E (n + 3)), .int 0, .int 0, .int 0, .int 0, .int 0, .int 0]), aQ E 3 5 (va_up (va_up (fun _ => none) (0 : Int32).toNatClampNeg (some (ad E (n + 4)))) (1 : Int32).toNatClampNeg (some (ad E (n + 24)))), aI E 4, aI E 4] ++ (oX4 E (n + 4) ++ (oX4 E (n + 24) ++ (oX4 E (n + 44)))))) := by
    have M := k_X4 hX (l := l) hE (ws0 ++ ([.inr (0, [.ref (ad E (n + 1)), .int 0, .int 0, .int 0, .ref (ad E (n + 2)), .ref (ad E (n + 3)), .int 0, .int 0, .int 0, .int 0, .int 0, .int 0]), aQ E 3 5 (va_up (va_up (fun _ => none) (0 : Int32).toNatClampNeg (some (ad E (n + 4)))) (1 : Int32).toNatClampNeg (some (ad E (n + 24)))), aI E 4, aI E 4] ++ (oX4 E (n + 4) ++ (oX4 E (n + 24))))) (n + 44) (by rw [List.length_append, hn]; rfl)
    simp only [List.append_assoc] at M
    exact M
  refine cCalN (host := "ClockRiver") (idx := 24) (y := yX4_init) (hX.nest (i := 536) (by decide +kernel) rfl) C A M (by decide) yi4 (Nat.le_of_ble_eq_true rfl) hl.1 (by simp [Value.category]) (by omega) (by decide +kernel) (fun H locs A => ?_)
  have A : cAt E s (ws0 ++ ([.inr (0, [.ref (ad E (n + 1)), .int 0, .int 0, .int 0, .ref (ad E (n + 2)), .ref (ad E (n + 3)), .int 0, .int 0, .int 0, .int 0, .int 0, .int 0]), aQ E 3 5 (va_up (va_up (fun _ => none) (0 : Int32).toNatClampNeg (some (ad E (n + 4)))) (1 : Int32).toNatClampNeg (some (ad E (n + 24)))), aI E 4, aI E 4] ++ (oX4 E (n + 4) ++ (oX4 E (n + 24) ++ (oX4 E (n + 44)))))) H locs := A
  refine cAas (j := 1) (jv := 44) (t0 := 3) (ci := 4) (N := 5) (i := 2) C hn A rfl rfl rfl (by decide) (by unfold vp_in; decide) (by decide +kernel) (fun H locs A => ?_)
  have A : cAt E s (ws0 ++ ([.inr (0, [.ref (ad E (n + 1)), .int 0, .int 0, .int 0, .ref (ad E (n + 2)), .ref (ad E (n + 3)), .int 0, .int 0, .int 0, .int 0, .int 0, .int 0]), aQ E 3 5 (va_up (va_up (va_up (fun _ => none) (0 : Int32).toNatClampNeg (some (ad E (n + 4)))) (1 : Int32).toNatClampNeg (some (ad E (n + 24)))) (2 : Int32).toNatClampNeg (some (ad E (n + 44)))), aI E 4, aI E 4] ++ (oX4 E (n + 4) ++ (oX4 E (n + 24) ++ (oX4 E (n + 44)))))) H locs := A
  refine lv_iinc (k := 0) (x := 2) (v := 3) (n := 1) hx hb (by decide +kernel) hl rfl (by decide) (by decide) rfl (fun ls hl => ?_)
  have hl : lv_has ls 2 [(1, .int 3), (0, .ref (ad E (n + 0)))] := hl
  refine lv_goto (off := -25) (tgt := 28) hx hb (by decide +kernel) (by decide) ?_
  refine lv_iload_n (k := 1) hx hb (by decide +kernel) rfl (lv_at hl 0 rfl) ?_
  refine lv_aload_n (k := 0) hx hb (by decide +kernel) rfl (lv_at hl 1 rfl) ?_
  refine cGet (ci := 0) (idx := 11) (j := 0) (sl := 0) C hn A rfl (by decide) (by decide) (sT_in (n := 537) (by decide +kernel) rfl) rfl (by decide +kernel) ?_
  refine cAln (j := 1) (t0 := 3) (N := 5) (v := 5) C hn A rfl rfl (by decide) (by decide +kernel) ?_
  refine lv_icmp_ge (x := 3) (y := 5) (off := 22) (tgt := 56) hx hb (by decide +kernel) (by decide) (fun h => absurd h (by decide)) (fun _ => ?_)
  refine lv_aload_n (k := 0) hx hb (by decide +kernel) rfl (lv_at hl 1 rfl) ?_
  refine cGet (ci := 0) (idx := 11) (j := 0) (sl := 0) C hn A rfl (by decide) (by decide) (sT_in (n := 537) (by decide +kernel) rfl) rfl (by decide +kernel) ?_
  refine lv_iload_n (k := 1) hx hb (by decide +kernel) rfl (lv_at hl 0 rfl) ?_
  refine cNew (idx := 9) (k := 64) (ci := 4) (fs := bX4) (NN := 11) rfl C hn A rfl (by decide) (sT_in (n := 535) (by decide +kernel) rfl) (sT_in (n := 165) (by decide +kernel) rfl) (sT_in (n := 138) (by decide +kernel) rfl) df4 (by omega) (by omega) (by decide +kernel) (fun H A => ?_)
  have A : cAt E s (ws0 ++ ([.inr (0, [.ref (ad E (n + 1)), .int 0, .int 0, .int 0, .ref (ad E (n + 2)), .ref (ad E (n + 3)), .int 0, .int 0, .int 0, .int 0, .int 0, .int 0]), aQ E 3 5 (va_up (va_up (va_up (fun _ => none) (0 : Int32).toNatClampNeg (some (ad E (n + 4)))) (1 : Int32).toNatClampNeg (some (ad E (n + 24)))) (2 : Int32).toNatClampNeg (some (ad E (n + 44)))), aI E 4, aI E 4] ++ (oX4 E (n + 4) ++ (oX4 E (n + 24) ++ (oX4 E (n + 44) ++ ([.inr (4, bX4)])))))) H locs := A
  refine lv_dup hx hb (by decide +kernel) rfl ?_
  have M : cM l E yX4_init cX4_init 1 2 19 114 (n + 64) (ws0 ++ ([.inr (0, [.ref (ad E (n + 1)), .int 0, .int 0, .int 0, .ref (ad E (n + 2)), .ref (ad E (n + 3)), .int 0, .int 0, .int 0, .int 0, .int 0, .int 0]), aQ E 3 5 (va_up (va_up (va_up (fun _ => none) (0 : Int32).toNatClampNeg (some (ad E (n + 4)))) (1 : Int32).toNatClampNeg (some (ad E (n + 24)))) (2 : Int32).toNatClampNeg (some (ad E (n + 44)))), aI E 4, aI E 4] ++ (oX4 E (n + 4) ++ (oX4 E (n + 24) ++ (oX4 E (n + 44) ++ ([.inr (4, bX4)])))))) (ws0 ++ ([.inr (0, [.ref (ad E (n + 1)), .int 0, .int 0, .int 0, .ref (ad E (n + 2)), .ref (ad E (n + 3)), .int 0, .int 0, .int 0, .int 0, .int 0, .int 0]), aQ E 3 5 (va_up (va_up (va_up (fun _ => none) (0 : Int32).toNatClampNeg (some (ad E (n + 4)))) (1 : Int32).toNatClampNeg (some (ad E (n + 24)))) (2 : Int32).toNatClampNeg (some (ad E (n + 44)))), aI E 4, aI E 4] ++ (oX4 E (n + 4) ++ (oX4 E (n + 24) ++ (oX4 E (n + 44) ++ (oX4 E (n + 64))))))) := by
    have M := k_X4 hX (l := l) hE (ws0 ++ ([.inr (0, [.ref (ad E (n + 1)), .int 0, .int 0, .int 0, .ref (ad E (n + 2)), .ref (ad E (n + 3)), .int 0, .int 0, .int 0, .int 0, .int 0, .int 0]), aQ E 3 5 (va_up (va_up (va_up (fun _ => none) (0 : Int32).toNatClampNeg (some (ad E (n + 4)))) (1 : Int32).toNatClampNeg (some (ad E (n + 24)))) (2 : Int32).toNatClampNeg (some (ad E (n + 44)))), aI E 4, aI E 4] ++ (oX4 E (n + 4) ++ (oX4 E (n + 24) ++ (oX4 E (n + 44)))))) (n + 64) (by rw [List.length_append, hn]; rfl)
    simp only [List.append_assoc] at M
    exact M
  refine cCalN (host := "ClockRiver") (idx := 24) (y := yX4_init) (hX.nest (i := 536) (by decide +kernel) rfl) C A M (by decide) yi4 (Nat.le_of_ble_eq_true rfl) hl.1 (by simp [Value.category]) (by omega) (by decide +kernel) (fun H locs A => ?_)
  have A : cAt E s (ws0 ++ ([.inr (0, [.ref (ad E (n + 1)), .int 0, .int 0, .int 0, .ref (ad E (n + 2)), .ref (ad E (n + 3)), .int 0, .int 0, .int 0, .int 0, .int 0, .int 0]), aQ E 3 5 (va_up (va_up (va_up (fun _ => none) (0 : Int32).toNatClampNeg (some (ad E (n + 4)))) (1 : Int32).toNatClampNeg (some (ad E (n + 24)))) (2 : Int32).toNatClampNeg (some (ad E (n + 44)))), aI E 4, aI E 4] ++ (oX4 E (n + 4) ++ (oX4 E (n + 24) ++ (oX4 E (n + 44) ++ (oX4 E (n + 64))))))) H locs := A
  refine cAas (j := 1) (jv := 64) (t0 := 3) (ci := 4) (N := 5) (i := 3) C hn A rfl rfl rfl (by decide) (by unfold vp_in; decide) (by decide +kernel) (fun H locs A => ?_)
  have A : cAt E s (ws0 ++ ([.inr (0, [.ref (ad E (n + 1)), .int 0, .int 0, .int 0, .ref (ad E (n + 2)), .ref (ad E (n + 3)), .int 0, .int 0, .int 0, .int 0, .int 0, .int 0]), aQ E 3 5 (va_up (va_up (va_up (va_up (fun _ => none) (0 : Int32).toNatClampNeg (some (ad E (n + 4)))) (1 : Int32).toNatClampNeg (some (ad E (n + 24)))) (2 : Int32).toNatClampNeg (some (ad E (n + 44)))) (3 : Int32).toNatClampNeg (some (ad E (n + 64)))), aI E 4, aI E 4] ++ (oX4 E (n + 4) ++ (oX4 E (n + 24) ++ (oX4 E (n + 44) ++ (oX4 E (n + 64))))))) H locs := A
  refine lv_iinc (k := 0) (x := 3) (v := 4) (n := 1) hx hb (by decide +kernel) hl rfl (by decide) (by decide) rfl (fun ls hl => ?_)
  have hl : lv_has ls 2 [(1, .int 4), (0, .ref (ad E (n + 0)))] := hl
  refine lv_goto (off := -25) (tgt := 28) hx hb (by decide +kernel) (by decide) ?_
  refine lv_iload_n (k := 1) hx hb (by decide +kernel) rfl (lv_at hl 0 rfl) ?_
  refine lv_aload_n (k := 0) hx hb (by decide +kernel) rfl (lv_at hl 1 rfl) ?_
  refine cGet (ci := 0) (idx := 11) (j := 0) (sl := 0) C hn A rfl (by decide) (by decide) (sT_in (n := 537) (by decide +kernel) rfl) rfl (by decide +kernel) ?_
  refine cAln (j := 1) (t0 := 3) (N := 5) (v := 5) C hn A rfl rfl (by decide) (by decide +kernel) ?_
  refine lv_icmp_ge (x := 4) (y := 5) (off := 22) (tgt := 56) hx hb (by decide +kernel) (by decide) (fun h => absurd h (by decide)) (fun _ => ?_)
  refine lv_aload_n (k := 0) hx hb (by decide +kernel) rfl (lv_at hl 1 rfl) ?_
  refine cGet (ci := 0) (idx := 11) (j := 0) (sl := 0) C hn A rfl (by decide) (by decide) (sT_in (n := 537) (by decide +kernel) rfl) rfl (by decide +kernel) ?_
  refine lv_iload_n (k := 1) hx hb (by decide +kernel) rfl (lv_at hl 0 rfl) ?_
  refine cNew (idx := 9) (k := 84) (ci := 4) (fs := bX4) (NN := 11) rfl C hn A rfl (by decide) (sT_in (n := 535) (by decide +kernel) rfl) (sT_in (n := 165) (by decide +kernel) rfl) (sT_in (n := 138) (by decide +kernel) rfl) df4 (by omega) (by omega) (by decide +kernel) (fun H A => ?_)
  have A : cAt E s (ws0 ++ ([.inr (0, [.ref (ad E (n + 1)), .int 0, .int 0, .int 0, .ref (ad E (n + 2)), .ref (ad E (n + 3)), .int 0, .int 0, .int 0, .int 0, .int 0, .int 0]), aQ E 3 5 (va_up (va_up (va_up (va_up (fun _ => none) (0 : Int32).toNatClampNeg (some (ad E (n + 4)))) (1 : Int32).toNatClampNeg (some (ad E (n + 24)))) (2 : Int32).toNatClampNeg (some (ad E (n + 44)))) (3 : Int32).toNatClampNeg (some (ad E (n + 64)))), aI E 4, aI E 4] ++ (oX4 E (n + 4) ++ (oX4 E (n + 24) ++ (oX4 E (n + 44) ++ (oX4 E (n + 64) ++ ([.inr (4, bX4)]))))))) H locs := A
  refine lv_dup hx hb (by decide +kernel) rfl ?_
  have M : cM l E yX4_init cX4_init 1 2 19 114 (n + 84) (ws0 ++ ([.inr (0, [.ref (ad E (n + 1)), .int 0, .int 0, .int 0, .ref (ad E (n + 2)), .ref (ad E (n + 3)), .int 0, .int 0, .int 0, .int 0, .int 0, .int 0]), aQ E 3 5 (va_up (va_up (va_up (va_up (fun _ => none) (0 : Int32).toNatClampNeg (some (ad E (n + 4)))) (1 : Int32).toNatClampNeg (some (ad E (n + 24)))) (2 : Int32).toNatClampNeg (some (ad E (n + 44)))) (3 : Int32).toNatClampNeg (some (ad E (n + 64)))), aI E 4, aI E 4] ++ (oX4 E (n + 4) ++ (oX4 E (n + 24) ++ (oX4 E (n + 44) ++ (oX4 E (n + 64) ++ ([.inr (4, bX4)]))))))) (ws0 ++ ([.inr (0, [.ref (ad E (n + 1)), .int 0, .int 0, .int 0, .ref (ad E (n + 2)), .ref (ad E (n + 3)), .int 0, .int 0, .int 0, .int 0, .int 0, .int 0]), aQ E 3 5 (va_up (va_up (va_up (va_up (fun _ => none) (0 : Int32).toNatClampNeg (some (ad E (n + 4)))) (1 : Int32).toNatClampNeg (some (ad E (n + 24)))) (2 : Int32).toNatClampNeg (some (ad E (n + 44)))) (3 : Int32).toNatClampNeg (some (ad E (n + 64)))), aI E 4, aI E 4] ++ (oX4 E (n + 4) ++ (oX4 E (n + 24) ++ (oX4 E (n + 44) ++ (oX4 E (n + 64) ++ (oX4 E (n + 84)))))))) := by
    have M := k_X4 hX (l := l) hE (ws0 ++ ([.inr (0, [.ref (ad E (n + 1)), .int 0, .int 0, .int 0, .ref (ad E (n + 2)), .ref (ad E (n + 3)), .int 0, .int 0, .int 0, .int 0, .int 0, .int 0]), aQ E 3 5 (va_up (va_up (va_up (va_up (fun _ => none) (0 : Int32).toNatClampNeg (some (ad E (n + 4)))) (1 : Int32).toNatClampNeg (some (ad E (n + 24)))) (2 : Int32).toNatClampNeg (some (ad E (n + 44)))) (3 : Int32).toNatClampNeg (some (ad E (n + 64)))), aI E 4, aI E 4] ++ (oX4 E (n + 4) ++ (oX4 E (n + 24) ++ (oX4 E (n + 44) ++ (oX4 E (n + 64))))))) (n + 84) (by rw [List.length_append, hn]; rfl)
    simp only [List.append_assoc] at M
    exact M
  refine cCalN (host := "ClockRiver") (idx := 24) (y := yX4_init) (hX.nest (i := 536) (by decide +kernel) rfl) C A M (by decide) yi4 (Nat.le_of_ble_eq_true rfl) hl.1 (by simp [Value.category]) (by omega) (by decide +kernel) (fun H locs A => ?_)
  have A : cAt E s (ws0 ++ ([.inr (0, [.ref (ad E (n + 1)), .int 0, .int 0, .int 0, .ref (ad E (n + 2)), .ref (ad E (n + 3)), .int 0, .int 0, .int 0, .int 0, .int 0, .int 0]), aQ E 3 5 (va_up (va_up (va_up (va_up (fun _ => none) (0 : Int32).toNatClampNeg (some (ad E (n + 4)))) (1 : Int32).toNatClampNeg (some (ad E (n + 24)))) (2 : Int32).toNatClampNeg (some (ad E (n + 44)))) (3 : Int32).toNatClampNeg (some (ad E (n + 64)))), aI E 4, aI E 4] ++ (oX4 E (n + 4) ++ (oX4 E (n + 24) ++ (oX4 E (n + 44) ++ (oX4 E (n + 64) ++ (oX4 E (n + 84)))))))) H locs := A
  refine cAas (j := 1) (jv := 84) (t0 := 3) (ci := 4) (N := 5) (i := 4) C hn A rfl rfl rfl (by decide) (by unfold vp_in; decide) (by decide +kernel) (fun H locs A => ?_)
  have A : cAt E s (ws0 ++ ([.inr (0, [.ref (ad E (n + 1)), .int 0, .int 0, .int 0, .ref (ad E (n + 2)), .ref (ad E (n + 3)), .int 0, .int 0, .int 0, .int 0, .int 0, .int 0]), aQ E 3 5 (va_up (va_up (va_up (va_up (va_up (fun _ => none) (0 : Int32).toNatClampNeg (some (ad E (n + 4)))) (1 : Int32).toNatClampNeg (some (ad E (n + 24)))) (2 : Int32).toNatClampNeg (some (ad E (n + 44)))) (3 : Int32).toNatClampNeg (some (ad E (n + 64)))) (4 : Int32).toNatClampNeg (some (ad E (n + 84)))), aI E 4, aI E 4] ++ (oX4 E (n + 4) ++ (oX4 E (n + 24) ++ (oX4 E (n + 44) ++ (oX4 E (n + 64) ++ (oX4 E (n + 84)))))))) H locs := A
  refine lv_iinc (k := 0) (x := 4) (v := 5) (n := 1) hx hb (by decide +kernel) hl rfl (by decide) (by decide) rfl (fun ls hl => ?_)
  have hl : lv_has ls 2 [(1, .int 5), (0, .ref (ad E (n + 0)))] := hl
  refine lv_goto (off := -25) (tgt := 28) hx hb (by decide +kernel) (by decide) ?_
  refine lv_iload_n (k := 1) hx hb (by decide +kernel) rfl (lv_at hl 0 rfl) ?_
  refine lv_aload_n (k := 0) hx hb (by decide +kernel) rfl (lv_at hl 1 rfl) ?_
  refine cGet (ci := 0) (idx := 11) (j := 0) (sl := 0) C hn A rfl (by decide) (by decide) (sT_in (n := 537) (by decide +kernel) rfl) rfl (by decide +kernel) ?_
  refine cAln (j := 1) (t0 := 3) (N := 5) (v := 5) C hn A rfl rfl (by decide) (by decide +kernel) ?_
  refine lv_icmp_ge (x := 5) (y := 5) (off := 22) (tgt := 56) hx hb (by decide +kernel) (by decide) (fun _ => ?_) (fun h => absurd (by decide) h)
  exact fin H locs 56 ls A (by decide +kernel)
/-- ClockRiver$Trays: what its constructor makes -/
def oX7 (E : sE) (n : Nat) : List va_E := [.inr (7, [.ref (ad E (n + 1)), .ref (ad E (n + 6)), .ref (ad E (n + 7))]), aQ E 5 4 (fun j => if j < 4 then some (ad E (n + (1 + 1 + j))) else none), aL E 60, aL E 60, aL E 60, aL E 60, aI E 4, .inl (eT E 0, 4, .inl (upd (upd (upd (upd (fun _ => 0) (0 : Int32).toNatClampNeg (-1)) (1 : Int32).toNatClampNeg (-1)) (2 : Int32).toNatClampNeg (-1)) (3 : Int32).toNatClampNeg (-1)))]
theorem yi7 : yI yX7_init cX7_init 1 := ⟨sT_in (n := 410) (by decide +kernel) rfl, sT_in (n := 143) (by decide +kernel) rfl, sT_in (n := 409) (by decide +kernel) rfl, by decide +kernel, by decide, rfl⟩
theorem k_X7 (hX : cX E) {l : Launch} (hE : sEn E) (ws0 : List va_E) (n : Nat) (hn : ws0.length = n) : cM l E yX7_init cX7_init 1 1 7 252 n (ws0 ++ [.inr (7, bX7)]) (ws0 ++ oX7 E n) := by
  refine cM_of (own := 7) hE (by decide +kernel) rfl rfl (by decide) ?_
  intro p e R s m args below meth c Q C hR fin H ls A hl
  obtain ⟨r1, r2⟩ := hR
  obtain ⟨hx, hb, -⟩ := C.2.1
  have hl : lv_has ls 1 [(0, .ref (ad E (n + 0)))] := hl
  obtain ⟨locs, hlocs⟩ : ∃ locs : List Loc, locs = [] := ⟨_, rfl⟩
  rw [← hlocs] at A ⊢
  have A : cAt E s (ws0 ++ ([.inr (7, [.null, .null, .null])])) H locs := A
  refine lv_aload_n (k := 0) hx hb (by decide +kernel) rfl (lv_at hl 0 rfl) ?_
  refine cObj (idx := 3) C (sT_in (n := 411) (by decide +kernel) rfl) (by decide) hl.1 (by decide) (by decide +kernel) ?_
  refine lv_aload_n (k := 0) hx hb (by decide +kernel) rfl (lv_at hl 0 rfl) ?_
  refine lv_iconst (n := 4) (v := 4) hx hb (by decide +kernel) (by decide) ?_
  refine lv_bipush (n := 60) (v := 60) hx hb (by decide +kernel) (by decide) ?_
  refine cMul hX (idx := 9) (k := 1) C hn A rfl (sT_in (n := 412) (by decide +kernel) rfl) (by omega) (by omega) (by decide +kernel) (fun H locs A => ?_)
  have A : cAt E s (ws0 ++ ([.inr (7, [.null, .null, .null]), aQ E 5 4 (fun j => if j < 4 then some (ad E (n + (1 + 1 + j))) else none), aL E 60, aL E 60, aL E 60, aL E 60])) H locs := A
  refine cPutF (idx := 11) (j := 0) (sl := 0) C hn A rfl (by decide) (by decide) (sT_in (n := 414) (by decide +kernel) rfl) rfl rfl rfl (Nat.le_of_ble_eq_true rfl) (by decide +kernel) (fun H locs A => ?_)
  have A : cAt E s (ws0 ++ ([.inr (7, [.ref (ad E (n + 1)), .null, .null]), aQ E 5 4 (fun j => if j < 4 then some (ad E (n + (1 + 1 + j))) else none), aL E 60, aL E 60, aL E 60, aL E 60])) H locs := A
  refine lv_aload_n (k := 0) hx hb (by decide +kernel) rfl (lv_at hl 0 rfl) ?_
  refine lv_iconst (n := 4) (v := 4) hx hb (by decide +kernel) (by decide) ?_
  refine cArI (k := 6) (N := 4) C hn A rfl (by decide +kernel) (by decide) (by decide) (by decide) (by omega) (by omega) (fun H A => ?_)
  have A : cAt E s (ws0 ++ ([.inr (7, [.ref (ad E (n + 1)), .null, .null]), aQ E 5 4 (fun j => if j < 4 then some (ad E (n + (1 + 1 + j))) else none), aL E 60, aL E 60, aL E 60, aL E 60, aI E 4])) H locs := A
  refine cPutF (idx := 16) (j := 0) (sl := 1) C hn A rfl (by decide) (by decide) (sT_in (n := 416) (by decide +kernel) rfl) rfl rfl rfl (Nat.le_of_ble_eq_true rfl) (by decide +kernel) (fun H locs A => ?_)
  have A : cAt E s (ws0 ++ ([.inr (7, [.ref (ad E (n + 1)), .ref (ad E (n + 6)), .null]), aQ E 5 4 (fun j => if j < 4 then some (ad E (n + (1 + 1 + j))) else none), aL E 60, aL E 60, aL E 60, aL E 60, aI E 4])) H locs := A
  refine lv_aload_n (k := 0) hx hb (by decide +kernel) rfl (lv_at hl 0 rfl) ?_
  refine lv_iconst (n := 4) (v := 4) hx hb (by decide +kernel) (by decide) ?_
  refine cArI (k := 7) (N := 4) C hn A rfl (by decide +kernel) (by decide) (by decide) (by decide) (by omega) (by omega) (fun H A => ?_)
  have A : cAt E s (ws0 ++ ([.inr (7, [.ref (ad E (n + 1)), .ref (ad E (n + 6)), .null]), aQ E 5 4 (fun j => if j < 4 then some (ad E (n + (1 + 1 + j))) else none), aL E 60, aL E 60, aL E 60, aL E 60, aI E 4, aI E 4])) H locs := A
  refine lv_dup hx hb (by decide +kernel) rfl ?_
  refine lv_iconst (n := 0) (v := 0) hx hb (by decide +kernel) (by decide) ?_
  refine lv_iconst (n := (-1)) (v := (-1)) hx hb (by decide +kernel) (by decide) ?_
  refine cIas (j := 7) (N := 4) (i := 0) (x := (-1)) C hn A rfl (by unfold vp_in; decide) (by decide +kernel) (fun H locs A => ?_)
  have A : cAt E s (ws0 ++ ([.inr (7, [.ref (ad E (n + 1)), .ref (ad E (n + 6)), .null]), aQ E 5 4 (fun j => if j < 4 then some (ad E (n + (1 + 1 + j))) else none), aL E 60, aL E 60, aL E 60, aL E 60, aI E 4, .inl (eT E 0, 4, .inl (upd (fun _ => 0) (0 : Int32).toNatClampNeg (-1)))])) H locs := A
  refine lv_dup hx hb (by decide +kernel) rfl ?_
  refine lv_iconst (n := 1) (v := 1) hx hb (by decide +kernel) (by decide) ?_
  refine lv_iconst (n := (-1)) (v := (-1)) hx hb (by decide +kernel) (by decide) ?_
  refine cIas (j := 7) (N := 4) (i := 1) (x := (-1)) C hn A rfl (by unfold vp_in; decide) (by decide +kernel) (fun H locs A => ?_)
  have A : cAt E s (ws0 ++ ([.inr (7, [.ref (ad E (n + 1)), .ref (ad E (n + 6)), .null]), aQ E 5 4 (fun j => if j < 4 then some (ad E (n + (1 + 1 + j))) else none), aL E 60, aL E 60, aL E 60, aL E 60, aI E 4, .inl (eT E 0, 4, .inl (upd (upd (fun _ => 0) (0 : Int32).toNatClampNeg (-1)) (1 : Int32).toNatClampNeg (-1)))])) H locs := A
  refine lv_dup hx hb (by decide +kernel) rfl ?_
  refine lv_iconst (n := 2) (v := 2) hx hb (by decide +kernel) (by decide) ?_
  refine lv_iconst (n := (-1)) (v := (-1)) hx hb (by decide +kernel) (by decide) ?_
  refine cIas (j := 7) (N := 4) (i := 2) (x := (-1)) C hn A rfl (by unfold vp_in; decide) (by decide +kernel) (fun H locs A => ?_)
  have A : cAt E s (ws0 ++ ([.inr (7, [.ref (ad E (n + 1)), .ref (ad E (n + 6)), .null]), aQ E 5 4 (fun j => if j < 4 then some (ad E (n + (1 + 1 + j))) else none), aL E 60, aL E 60, aL E 60, aL E 60, aI E 4, .inl (eT E 0, 4, .inl (upd (upd (upd (fun _ => 0) (0 : Int32).toNatClampNeg (-1)) (1 : Int32).toNatClampNeg (-1)) (2 : Int32).toNatClampNeg (-1)))])) H locs := A
  refine lv_dup hx hb (by decide +kernel) rfl ?_
  refine lv_iconst (n := 3) (v := 3) hx hb (by decide +kernel) (by decide) ?_
  refine lv_iconst (n := (-1)) (v := (-1)) hx hb (by decide +kernel) (by decide) ?_
  refine cIas (j := 7) (N := 4) (i := 3) (x := (-1)) C hn A rfl (by unfold vp_in; decide) (by decide +kernel) (fun H locs A => ?_)
  have A : cAt E s (ws0 ++ ([.inr (7, [.ref (ad E (n + 1)), .ref (ad E (n + 6)), .null]), aQ E 5 4 (fun j => if j < 4 then some (ad E (n + (1 + 1 + j))) else none), aL E 60, aL E 60, aL E 60, aL E 60, aI E 4, .inl (eT E 0, 4, .inl (upd (upd (upd (upd (fun _ => 0) (0 : Int32).toNatClampNeg (-1)) (1 : Int32).toNatClampNeg (-1)) (2 : Int32).toNatClampNeg (-1)) (3 : Int32).toNatClampNeg (-1)))])) H locs := A
  refine cPutF (idx := 20) (j := 0) (sl := 2) C hn A rfl (by decide) (by decide) (sT_in (n := 418) (by decide +kernel) rfl) rfl rfl rfl (Nat.le_of_ble_eq_true rfl) (by decide +kernel) (fun H locs A => ?_)
  have A : cAt E s (ws0 ++ ([.inr (7, [.ref (ad E (n + 1)), .ref (ad E (n + 6)), .ref (ad E (n + 7))]), aQ E 5 4 (fun j => if j < 4 then some (ad E (n + (1 + 1 + j))) else none), aL E 60, aL E 60, aL E 60, aL E 60, aI E 4, .inl (eT E 0, 4, .inl (upd (upd (upd (upd (fun _ => 0) (0 : Int32).toNatClampNeg (-1)) (1 : Int32).toNatClampNeg (-1)) (2 : Int32).toNatClampNeg (-1)) (3 : Int32).toNatClampNeg (-1)))])) H locs := A
  exact fin H locs 45 ls A (by decide +kernel)
end C98zw
