/-! 98zv: constructors, walked (written by gencon.py) -/
section C98zv
variable {E : sE}
theorem cX.nest (hX : cX E) {i : Nat} {w : Cond} (hw : lw_tbl[i]? = some w) (ho : w.onTables = true) : va_Nw w (eS E) := by
  obtain ⟨a, h⟩ := hX
  exact va_Nw.of ho (h w (List.mem_of_getElem? hw))
theorem cX.ao (hX : cX E) {i : Nat} {C0 : String} (hw : lw_tbl[i]? = some (Cond.arrayOver (.object C0))) : va_AO C0 (eS E) := by
  obtain ⟨a, h⟩ := hX
  exact va_AO.of (h _ (List.mem_of_getElem? hw))
abbrev bX0 : List Value := [.null, .int 0, .int 0, .int 0, .null, .null, .int 0, .int 0, .int 0, .int 0, .int 0, .int 0]
theorem df0 : ∀ j, j < knf (0 + 1) → defaultValue (kTy 0 j) = vp_V bX0 j := by decide +kernel
abbrev bX1 : List Value := [.int 0, .int 0, .int 0, .int 0, .int 0, .int 0, .int 0, .int 0, .null, .null, .null]
theorem df1 : ∀ j, j < knf (1 + 1) → defaultValue (kTy 1 j) = vp_V bX1 j := by decide +kernel
abbrev bX2 : List Value := [.int 0, .null, .null, .null, .null]
theorem df2 : ∀ j, j < knf (2 + 1) → defaultValue (kTy 2 j) = vp_V bX2 j := by decide +kernel
abbrev bX3 : List Value := [.int 0, .null, .null, .null, .null, .null, .null]
theorem df3 : ∀ j, j < knf (3 + 1) → defaultValue (kTy 3 j) = vp_V bX3 j := by decide +kernel
abbrev bX4 : List Value := [.int 0, .int 0, .int 0, .int 0, .int 0, .int 0, .int 0, .null, .null, .null, .null]
theorem df4 : ∀ j, j < knf (4 + 1) → defaultValue (kTy 4 j) = vp_V bX4 j := by decide +kernel
abbrev bX5 : List Value := [.null, .null, .long 0, .int 0]
theorem df5 : ∀ j, j < knf (5 + 1) → defaultValue (kTy 5 j) = vp_V bX5 j := by decide +kernel
abbrev bX6 : List Value := [.null, .int 0, .int 0, .int 0, .int 0, .long 0, .int 0, .int 0, .int 0, .null, .null, .null]
theorem df6 : ∀ j, j < knf (6 + 1) → defaultValue (kTy 6 j) = vp_V bX6 j := by decide +kernel
abbrev bX7 : List Value := [.null, .null, .null]
theorem df7 : ∀ j, j < knf (7 + 1) → defaultValue (kTy 7 j) = vp_V bX7 j := by decide +kernel
abbrev bX8 : List Value := [.int 0, .int 0, .int 0, .null, .null, .null, .null, .null, .null]
theorem df8 : ∀ j, j < knf (8 + 1) → defaultValue (kTy 8 j) = vp_V bX8 j := by decide +kernel
abbrev bX9 : List Value := [.null, .null, .null, .int 0, .int 0, .null]
theorem df9 : ∀ j, j < knf (9 + 1) → defaultValue (kTy 9 j) = vp_V bX9 j := by decide +kernel
abbrev bX10 : List Value := [.int 0, .null, .null, .null, .null, .null]
theorem df10 : ∀ j, j < knf (10 + 1) → defaultValue (kTy 10 j) = vp_V bX10 j := by decide +kernel
abbrev bX11 : List Value := [.int 0, .long 0, .long 0, .int 0, .null, .null, .null, .null, .null, .null, .null, .null, .null, .null, .null]
theorem df11 : ∀ j, j < knf (11 + 1) → defaultValue (kTy 11 j) = vp_V bX11 j := by decide +kernel
abbrev bX12 : List Value := [.int 0, .int 0, .long 0, .long 0, .null, .null, .null, .null, .int 0, .int 0, .int 0, .int 0, .int 0, .int 0, .int 0, .int 0, .int 0, .int 0, .int 0, .long 0, .null, .null, .null, .null, .int 0, .int 0, .int 0, .null, .null, .int 0, .null, .null, .null, .int 0, .int 0, .int 0, .int 0, .int 0, .null, .null, .int 0, .int 0, .int 0, .int 0, .int 0, .int 0, .int 0, .int 0, .int 0]
theorem df12 : ∀ j, j < knf (12 + 1) → defaultValue (kTy 12 j) = vp_V bX12 j := by decide +kernel
/-- ClockRiver$Mills: what its constructor makes -/
def oX2 (E : sE) (n : Nat) : List va_E := [.inr (2, [.int 0, .ref (ad E (n + 1)), .ref (ad E (n + 2)), .ref (ad E (n + 3)), .ref (ad E (n + 4))]), aL E 6, aI E 6, aI E 6, aI E 6]
theorem yi2 : yI yX2_init cX2_init 1 := ⟨sT_in (n := 221) (by decide +kernel) rfl, sT_in (n := 140) (by decide +kernel) rfl, sT_in (n := 220) (by decide +kernel) rfl, by decide +kernel, by decide, rfl⟩
theorem k_X2 {l : Launch} (hE : sEn E) (ws0 : List va_E) (n : Nat) (hn : ws0.length = n) : cM l E yX2_init cX2_init 1 1 4 24 n (ws0 ++ [.inr (2, bX2)]) (ws0 ++ oX2 E n) := by
  refine cM_of (own := 2) hE (by decide +kernel) rfl rfl (by decide) ?_
  intro p e R s m args below meth c Q C hR fin H ls A hl
  obtain ⟨r1, r2⟩ := hR
  obtain ⟨hx, hb, -⟩ := C.2.1
  have hl : lv_has ls 1 [(0, .ref (ad E (n + 0)))] := hl
  obtain ⟨locs, hlocs⟩ : ∃ locs : List Loc, locs = [] := ⟨_, rfl⟩
  rw [← hlocs] at A ⊢
  have A : cAt E s (ws0 ++ ([.inr (2, [.int 0, .null, .null, .null, .null])])) H locs := A
  refine lv_aload_n (k := 0) hx hb (by decide +kernel) rfl (lv_at hl 0 rfl) ?_
  refine cObj (idx := 3) C (sT_in (n := 222) (by decide +kernel) rfl) (by decide) hl.1 (by decide) (by decide +kernel) ?_
  refine lv_aload_n (k := 0) hx hb (by decide +kernel) rfl (lv_at hl 0 rfl) ?_
  refine lv_bipush (n := 6) (v := 6) hx hb (by decide +kernel) (by decide) ?_
  refine cArL (k := 1) (N := 6) C hn A rfl (by decide +kernel) (by decide) (by decide) (by decide) (by omega) (by omega) (fun H A => ?_)
  have A : cAt E s (ws0 ++ ([.inr (2, [.int 0, .null, .null, .null, .null]), aL E 6])) H locs := A
  refine cPutF (idx := 9) (j := 0) (sl := 1) C hn A rfl (by decide) (by decide) (sT_in (n := 229) (by decide +kernel) rfl) rfl rfl rfl (Nat.le_of_ble_eq_true rfl) (by decide +kernel) (fun H locs A => ?_)
  have A : cAt E s (ws0 ++ ([.inr (2, [.int 0, .ref (ad E (n + 1)), .null, .null, .null]), aL E 6])) H locs := A
  refine lv_aload_n (k := 0) hx hb (by decide +kernel) rfl (lv_at hl 0 rfl) ?_
  refine lv_bipush (n := 6) (v := 6) hx hb (by decide +kernel) (by decide) ?_
  refine cArI (k := 2) (N := 6) C hn A rfl (by decide +kernel) (by decide) (by decide) (by decide) (by omega) (by omega) (fun H A => ?_)
  have A : cAt E s (ws0 ++ ([.inr (2, [.int 0, .ref (ad E (n + 1)), .null, .null, .null]), aL E 6, aI E 6])) H locs := A
  refine cPutF (idx := 15) (j := 0) (sl := 2) C hn A rfl (by decide) (by decide) (sT_in (n := 232) (by decide +kernel) rfl) rfl rfl rfl (Nat.le_of_ble_eq_true rfl) (by decide +kernel) (fun H locs A => ?_)
  have A : cAt E s (ws0 ++ ([.inr (2, [.int 0, .ref (ad E (n + 1)), .ref (ad E (n + 2)), .null, .null]), aL E 6, aI E 6])) H locs := A
  refine lv_aload_n (k := 0) hx hb (by decide +kernel) rfl (lv_at hl 0 rfl) ?_
  refine lv_bipush (n := 6) (v := 6) hx hb (by decide +kernel) (by decide) ?_
  refine cArI (k := 3) (N := 6) C hn A rfl (by decide +kernel) (by decide) (by decide) (by decide) (by omega) (by omega) (fun H A => ?_)
  have A : cAt E s (ws0 ++ ([.inr (2, [.int 0, .ref (ad E (n + 1)), .ref (ad E (n + 2)), .null, .null]), aL E 6, aI E 6, aI E 6])) H locs := A
  refine cPutF (idx := 19) (j := 0) (sl := 3) C hn A rfl (by decide) (by decide) (sT_in (n := 235) (by decide +kernel) rfl) rfl rfl rfl (Nat.le_of_ble_eq_true rfl) (by decide +kernel) (fun H locs A => ?_)
  have A : cAt E s (ws0 ++ ([.inr (2, [.int 0, .ref (ad E (n + 1)), .ref (ad E (n + 2)), .ref (ad E (n + 3)), .null]), aL E 6, aI E 6, aI E 6])) H locs := A
  refine lv_aload_n (k := 0) hx hb (by decide +kernel) rfl (lv_at hl 0 rfl) ?_
  refine lv_bipush (n := 6) (v := 6) hx hb (by decide +kernel) (by decide) ?_
  refine cArI (k := 4) (N := 6) C hn A rfl (by decide +kernel) (by decide) (by decide) (by decide) (by omega) (by omega) (fun H A => ?_)
  have A : cAt E s (ws0 ++ ([.inr (2, [.int 0, .ref (ad E (n + 1)), .ref (ad E (n + 2)), .ref (ad E (n + 3)), .null]), aL E 6, aI E 6, aI E 6, aI E 6])) H locs := A
  refine cPutF (idx := 22) (j := 0) (sl := 4) C hn A rfl (by decide) (by decide) (sT_in (n := 237) (by decide +kernel) rfl) rfl rfl rfl (Nat.le_of_ble_eq_true rfl) (by decide +kernel) (fun H locs A => ?_)
  have A : cAt E s (ws0 ++ ([.inr (2, [.int 0, .ref (ad E (n + 1)), .ref (ad E (n + 2)), .ref (ad E (n + 3)), .ref (ad E (n + 4))]), aL E 6, aI E 6, aI E 6, aI E 6])) H locs := A
  exact fin H locs 36 ls A (by decide +kernel)
/-- ClockRiver$Reaches: what its constructor makes -/
def oX3 (E : sE) (n : Nat) : List va_E := [.inr (3, [.int 0, .ref (ad E (n + 1)), .ref (ad E (n + 2)), .ref (ad E (n + 3)), .ref (ad E (n + 4)), .ref (ad E (n + 5)), .ref (ad E (n + 6))]), aL E 6, aI E 6, aI E 6, aI E 6, aI E 6, aI E 6]
theorem yi3 : yI yX3_init cX3_init 1 := ⟨sT_in (n := 174) (by decide +kernel) rfl, sT_in (n := 139) (by decide +kernel) rfl, sT_in (n := 173) (by decide +kernel) rfl, by decide +kernel, by decide, rfl⟩
theorem k_X3 {l : Launch} (hE : sEn E) (ws0 : List va_E) (n : Nat) (hn : ws0.length = n) : cM l E yX3_init cX3_init 1 1 6 36 n (ws0 ++ [.inr (3, bX3)]) (ws0 ++ oX3 E n) := by
  refine cM_of (own := 3) hE (by decide +kernel) rfl rfl (by decide) ?_
  intro p e R s m args below meth c Q C hR fin H ls A hl
  obtain ⟨r1, r2⟩ := hR
  obtain ⟨hx, hb, -⟩ := C.2.1
  have hl : lv_has ls 1 [(0, .ref (ad E (n + 0)))] := hl
  obtain ⟨locs, hlocs⟩ : ∃ locs : List Loc, locs = [] := ⟨_, rfl⟩
  rw [← hlocs] at A ⊢
  have A : cAt E s (ws0 ++ ([.inr (3, [.int 0, .null, .null, .null, .null, .null, .null])])) H locs := A
  refine lv_aload_n (k := 0) hx hb (by decide +kernel) rfl (lv_at hl 0 rfl) ?_
  refine cObj (idx := 3) C (sT_in (n := 175) (by decide +kernel) rfl) (by decide) hl.1 (by decide) (by decide +kernel) ?_
  refine lv_aload_n (k := 0) hx hb (by decide +kernel) rfl (lv_at hl 0 rfl) ?_
  refine lv_bipush (n := 6) (v := 6) hx hb (by decide +kernel) (by decide) ?_
  refine cArL (k := 1) (N := 6) C hn A rfl (by decide +kernel) (by decide) (by decide) (by decide) (by omega) (by omega) (fun H A => ?_)
  have A : cAt E s (ws0 ++ ([.inr (3, [.int 0, .null, .null, .null, .null, .null, .null]), aL E 6])) H locs := A
  refine cPutF (idx := 9) (j := 0) (sl := 1) C hn A rfl (by decide) (by decide) (sT_in (n := 181) (by decide +kernel) rfl) rfl rfl rfl (Nat.le_of_ble_eq_true rfl) (by decide +kernel) (fun H locs A => ?_)
  have A : cAt E s (ws0 ++ ([.inr (3, [.int 0, .ref (ad E (n + 1)), .null, .null, .null, .null, .null]), aL E 6])) H locs := A
  refine lv_aload_n (k := 0) hx hb (by decide +kernel) rfl (lv_at hl 0 rfl) ?_
  refine lv_bipush (n := 6) (v := 6) hx hb (by decide +kernel) (by decide) ?_
  refine cArI (k := 2) (N := 6) C hn A rfl (by decide +kernel) (by decide) (by decide) (by decide) (by omega) (by omega) (fun H A => ?_)
  have A : cAt E s (ws0 ++ ([.inr (3, [.int 0, .ref (ad E (n + 1)), .null, .null, .null, .null, .null]), aL E 6, aI E 6])) H locs := A
  refine cPutF (idx := 15) (j := 0) (sl := 2) C hn A rfl (by decide) (by decide) (sT_in (n := 185) (by decide +kernel) rfl) rfl rfl rfl (Nat.le_of_ble_eq_true rfl) (by decide +kernel) (fun H locs A => ?_)
  have A : cAt E s (ws0 ++ ([.inr (3, [.int 0, .ref (ad E (n + 1)), .ref (ad E (n + 2)), .null, .null, .null, .null]), aL E 6, aI E 6])) H locs := A
  refine lv_aload_n (k := 0) hx hb (by decide +kernel) rfl (lv_at hl 0 rfl) ?_
  refine lv_bipush (n := 6) (v := 6) hx hb (by decide +kernel) (by decide) ?_
  refine cArI (k := 3) (N := 6) C hn A rfl (by decide +kernel) (by decide) (by decide) (by decide) (by omega) (by omega) (fun H A => ?_)
  have A : cAt E s (ws0 ++ ([.inr (3, [.int 0, .ref (ad E (n + 1)), .ref (ad E (n + 2)), .null, .null, .null, .null]), aL E 6, aI E 6, aI E 6])) H locs := A
  refine cPutF (idx := 19) (j := 0) (sl := 3) C hn A rfl (by decide) (by decide) (sT_in (n := 187) (by decide +kernel) rfl) rfl rfl rfl (Nat.le_of_ble_eq_true rfl) (by decide +kernel) (fun H locs A => ?_)
  have A : cAt E s (ws0 ++ ([.inr (3, [.int 0, .ref (ad E (n + 1)), .ref (ad E (n + 2)), .ref (ad E (n + 3)), .null, .null, .null]), aL E 6, aI E 6, aI E 6])) H locs := A
  refine lv_aload_n (k := 0) hx hb (by decide +kernel) rfl (lv_at hl 0 rfl) ?_
  refine lv_bipush (n := 6) (v := 6) hx hb (by decide +kernel) (by decide) ?_
  refine cArI (k := 4) (N := 6) C hn A rfl (by decide +kernel) (by decide) (by decide) (by decide) (by omega) (by omega) (fun H A => ?_)
  have A : cAt E s (ws0 ++ ([.inr (3, [.int 0, .ref (ad E (n + 1)), .ref (ad E (n + 2)), .ref (ad E (n + 3)), .null, .null, .null]), aL E 6, aI E 6, aI E 6, aI E 6])) H locs := A
  refine cPutF (idx := 22) (j := 0) (sl := 4) C hn A rfl (by decide) (by decide) (sT_in (n := 191) (by decide +kernel) rfl) rfl rfl rfl (Nat.le_of_ble_eq_true rfl) (by decide +kernel) (fun H locs A => ?_)
  have A : cAt E s (ws0 ++ ([.inr (3, [.int 0, .ref (ad E (n + 1)), .ref (ad E (n + 2)), .ref (ad E (n + 3)), .ref (ad E (n + 4)), .null, .null]), aL E 6, aI E 6, aI E 6, aI E 6])) H locs := A
  refine lv_aload_n (k := 0) hx hb (by decide +kernel) rfl (lv_at hl 0 rfl) ?_
  refine lv_bipush (n := 6) (v := 6) hx hb (by decide +kernel) (by decide) ?_
  refine cArI (k := 5) (N := 6) C hn A rfl (by decide +kernel) (by decide) (by decide) (by decide) (by omega) (by omega) (fun H A => ?_)
  have A : cAt E s (ws0 ++ ([.inr (3, [.int 0, .ref (ad E (n + 1)), .ref (ad E (n + 2)), .ref (ad E (n + 3)), .ref (ad E (n + 4)), .null, .null]), aL E 6, aI E 6, aI E 6, aI E 6, aI E 6])) H locs := A
  refine cPutF (idx := 25) (j := 0) (sl := 5) C hn A rfl (by decide) (by decide) (sT_in (n := 196) (by decide +kernel) rfl) rfl rfl rfl (Nat.le_of_ble_eq_true rfl) (by decide +kernel) (fun H locs A => ?_)
  have A : cAt E s (ws0 ++ ([.inr (3, [.int 0, .ref (ad E (n + 1)), .ref (ad E (n + 2)), .ref (ad E (n + 3)), .ref (ad E (n + 4)), .ref (ad E (n + 5)), .null]), aL E 6, aI E 6, aI E 6, aI E 6, aI E 6])) H locs := A
  refine lv_aload_n (k := 0) hx hb (by decide +kernel) rfl (lv_at hl 0 rfl) ?_
  refine lv_bipush (n := 6) (v := 6) hx hb (by decide +kernel) (by decide) ?_
  refine cArI (k := 6) (N := 6) C hn A rfl (by decide +kernel) (by decide) (by decide) (by decide) (by omega) (by omega) (fun H A => ?_)
  have A : cAt E s (ws0 ++ ([.inr (3, [.int 0, .ref (ad E (n + 1)), .ref (ad E (n + 2)), .ref (ad E (n + 3)), .ref (ad E (n + 4)), .ref (ad E (n + 5)), .null]), aL E 6, aI E 6, aI E 6, aI E 6, aI E 6, aI E 6])) H locs := A
  refine cPutF (idx := 28) (j := 0) (sl := 6) C hn A rfl (by decide) (by decide) (sT_in (n := 198) (by decide +kernel) rfl) rfl rfl rfl (Nat.le_of_ble_eq_true rfl) (by decide +kernel) (fun H locs A => ?_)
  have A : cAt E s (ws0 ++ ([.inr (3, [.int 0, .ref (ad E (n + 1)), .ref (ad E (n + 2)), .ref (ad E (n + 3)), .ref (ad E (n + 4)), .ref (ad E (n + 5)), .ref (ad E (n + 6))]), aL E 6, aI E 6, aI E 6, aI E 6, aI E 6, aI E 6])) H locs := A
  exact fin H locs 52 ls A (by decide +kernel)
/-- ClockRiver$Winders: what its constructor makes -/
def oX10 (E : sE) (n : Nat) : List va_E := [.inr (10, [.int 0, .ref (ad E (n + 1)), .ref (ad E (n + 2)), .ref (ad E (n + 3)), .ref (ad E (n + 4)), .ref (ad E (n + 5))]), aL E 6, aI E 6, aI E 6, aI E 6, aI E 6]
theorem yi10 : yI yX10_init cX10_init 1 := ⟨sT_in (n := 256) (by decide +kernel) rfl, sT_in (n := 141) (by decide +kernel) rfl, sT_in (n := 255) (by decide +kernel) rfl, by decide +kernel, by decide, rfl⟩
theorem k_X10 {l : Launch} (hE : sEn E) (ws0 : List va_E) (n : Nat) (hn : ws0.length = n) : cM l E yX10_init cX10_init 1 1 5 30 n (ws0 ++ [.inr (10, bX10)]) (ws0 ++ oX10 E n) := by
  refine cM_of (own := 10) hE (by decide +kernel) rfl rfl (by decide) ?_
  intro p e R s m args below meth c Q C hR fin H ls A hl
  obtain ⟨r1, r2⟩ := hR
  obtain ⟨hx, hb, -⟩ := C.2.1
  have hl : lv_has ls 1 [(0, .ref (ad E (n + 0)))] := hl
  obtain ⟨locs, hlocs⟩ : ∃ locs : List Loc, locs = [] := ⟨_, rfl⟩
  rw [← hlocs] at A ⊢
  have A : cAt E s (ws0 ++ ([.inr (10, [.int 0, .null, .null, .null, .null, .null])])) H locs := A
  refine lv_aload_n (k := 0) hx hb (by decide +kernel) rfl (lv_at hl 0 rfl) ?_
  refine cObj (idx := 3) C (sT_in (n := 257) (by decide +kernel) rfl) (by decide) hl.1 (by decide) (by decide +kernel) ?_
  refine lv_aload_n (k := 0) hx hb (by decide +kernel) rfl (lv_at hl 0 rfl) ?_
  refine lv_bipush (n := 6) (v := 6) hx hb (by decide +kernel) (by decide) ?_
  refine cArL (k := 1) (N := 6) C hn A rfl (by decide +kernel) (by decide) (by decide) (by decide) (by omega) (by omega) (fun H A => ?_)
  have A : cAt E s (ws0 ++ ([.inr (10, [.int 0, .null, .null, .null, .null, .null]), aL E 6])) H locs := A
  refine cPutF (idx := 9) (j := 0) (sl := 1) C hn A rfl (by decide) (by decide) (sT_in (n := 264) (by decide +kernel) rfl) rfl rfl rfl (Nat.le_of_ble_eq_true rfl) (by decide +kernel) (fun H locs A => ?_)
  have A : cAt E s (ws0 ++ ([.inr (10, [.int 0, .ref (ad E (n + 1)), .null, .null, .null, .null]), aL E 6])) H locs := A
  refine lv_aload_n (k := 0) hx hb (by decide +kernel) rfl (lv_at hl 0 rfl) ?_
  refine lv_bipush (n := 6) (v := 6) hx hb (by decide +kernel) (by decide) ?_
  refine cArI (k := 2) (N := 6) C hn A rfl (by decide +kernel) (by decide) (by decide) (by decide) (by omega) (by omega) (fun H A => ?_)
  have A : cAt E s (ws0 ++ ([.inr (10, [.int 0, .ref (ad E (n + 1)), .null, .null, .null, .null]), aL E 6, aI E 6])) H locs := A
  refine cPutF (idx := 15) (j := 0) (sl := 2) C hn A rfl (by decide) (by decide) (sT_in (n := 267) (by decide +kernel) rfl) rfl rfl rfl (Nat.le_of_ble_eq_true rfl) (by decide +kernel) (fun H locs A => ?_)
  have A : cAt E s (ws0 ++ ([.inr (10, [.int 0, .ref (ad E (n + 1)), .ref (ad E (n + 2)), .null, .null, .null]), aL E 6, aI E 6])) H locs := A
  refine lv_aload_n (k := 0) hx hb (by decide +kernel) rfl (lv_at hl 0 rfl) ?_
  refine lv_bipush (n := 6) (v := 6) hx hb (by decide +kernel) (by decide) ?_
  refine cArI (k := 3) (N := 6) C hn A rfl (by decide +kernel) (by decide) (by decide) (by decide) (by omega) (by omega) (fun H A => ?_)
  have A : cAt E s (ws0 ++ ([.inr (10, [.int 0, .ref (ad E (n + 1)), .ref (ad E (n + 2)), .null, .null, .null]), aL E 6, aI E 6, aI E 6])) H locs := A
  refine cPutF (idx := 19) (j := 0) (sl := 3) C hn A rfl (by decide) (by decide) (sT_in (n := 270) (by decide +kernel) rfl) rfl rfl rfl (Nat.le_of_ble_eq_true rfl) (by decide +kernel) (fun H locs A => ?_)
  have A : cAt E s (ws0 ++ ([.inr (10, [.int 0, .ref (ad E (n + 1)), .ref (ad E (n + 2)), .ref (ad E (n + 3)), .null, .null]), aL E 6, aI E 6, aI E 6])) H locs := A
  refine lv_aload_n (k := 0) hx hb (by decide +kernel) rfl (lv_at hl 0 rfl) ?_
  refine lv_bipush (n := 6) (v := 6) hx hb (by decide +kernel) (by decide) ?_
  refine cArI (k := 4) (N := 6) C hn A rfl (by decide +kernel) (by decide) (by decide) (by decide) (by omega) (by omega) (fun H A => ?_)
  have A : cAt E s (ws0 ++ ([.inr (10, [.int 0, .ref (ad E (n + 1)), .ref (ad E (n + 2)), .ref (ad E (n + 3)), .null, .null]), aL E 6, aI E 6, aI E 6, aI E 6])) H locs := A
  refine cPutF (idx := 22) (j := 0) (sl := 4) C hn A rfl (by decide) (by decide) (sT_in (n := 273) (by decide +kernel) rfl) rfl rfl rfl (Nat.le_of_ble_eq_true rfl) (by decide +kernel) (fun H locs A => ?_)
  have A : cAt E s (ws0 ++ ([.inr (10, [.int 0, .ref (ad E (n + 1)), .ref (ad E (n + 2)), .ref (ad E (n + 3)), .ref (ad E (n + 4)), .null]), aL E 6, aI E 6, aI E 6, aI E 6])) H locs := A
  refine lv_aload_n (k := 0) hx hb (by decide +kernel) rfl (lv_at hl 0 rfl) ?_
  refine lv_bipush (n := 6) (v := 6) hx hb (by decide +kernel) (by decide) ?_
  refine cArI (k := 5) (N := 6) C hn A rfl (by decide +kernel) (by decide) (by decide) (by decide) (by omega) (by omega) (fun H A => ?_)
  have A : cAt E s (ws0 ++ ([.inr (10, [.int 0, .ref (ad E (n + 1)), .ref (ad E (n + 2)), .ref (ad E (n + 3)), .ref (ad E (n + 4)), .null]), aL E 6, aI E 6, aI E 6, aI E 6, aI E 6])) H locs := A
  refine cPutF (idx := 25) (j := 0) (sl := 5) C hn A rfl (by decide) (by decide) (sT_in (n := 275) (by decide +kernel) rfl) rfl rfl rfl (Nat.le_of_ble_eq_true rfl) (by decide +kernel) (fun H locs A => ?_)
  have A : cAt E s (ws0 ++ ([.inr (10, [.int 0, .ref (ad E (n + 1)), .ref (ad E (n + 2)), .ref (ad E (n + 3)), .ref (ad E (n + 4)), .ref (ad E (n + 5))]), aL E 6, aI E 6, aI E 6, aI E 6, aI E 6])) H locs := A
  exact fin H locs 44 ls A (by decide +kernel)
/-- ClockRiver$Weeks: what its constructor makes -/
def oX8 (E : sE) (n : Nat) : List va_E := [.inr (8, [.int 0, .int 0, .int 0, .ref (ad E (n + 1)), .ref (ad E (n + 2)), .ref (ad E (n + 3)), .ref (ad E (n + 4)), .ref (ad E (n + 5)), .ref (ad E (n + 6))]), aI E 60, aI E 60, aI E 60, aI E 60, aI E 60, aI E 60]
theorem yi8 : yI yX8_init cX8_init 1 := ⟨sT_in (n := 359) (by decide +kernel) rfl, sT_in (n := 142) (by decide +kernel) rfl, sT_in (n := 358) (by decide +kernel) rfl, by decide +kernel, by decide, rfl⟩
theorem k_X8 {l : Launch} (hE : sEn E) (ws0 : List va_E) (n : Nat) (hn : ws0.length = n) : cM l E yX8_init cX8_init 1 1 6 360 n (ws0 ++ [.inr (8, bX8)]) (ws0 ++ oX8 E n) := by
  refine cM_of (own := 8) hE (by decide +kernel) rfl rfl (by decide) ?_
  intro p e R s m args below meth c Q C hR fin H ls A hl
  obtain ⟨r1, r2⟩ := hR
  obtain ⟨hx, hb, -⟩ := C.2.1
  have hl : lv_has ls 1 [(0, .ref (ad E (n + 0)))] := hl
  obtain ⟨locs, hlocs⟩ : ∃ locs : List Loc, locs = [] := ⟨_, rfl⟩
  rw [← hlocs] at A ⊢
  have A : cAt E s (ws0 ++ ([.inr (8, [.int 0, .int 0, .int 0, .null, .null, .null, .null, .null, .null])])) H locs := A
  refine lv_aload_n (k := 0) hx hb (by decide +kernel) rfl (lv_at hl 0 rfl) ?_
  refine cObj (idx := 5) C (sT_in (n := 360) (by decide +kernel) rfl) (by decide) hl.1 (by decide) (by decide +kernel) ?_
  refine lv_aload_n (k := 0) hx hb (by decide +kernel) rfl (lv_at hl 0 rfl) ?_
  refine lv_bipush (n := 60) (v := 60) hx hb (by decide +kernel) (by decide) ?_
  refine cArI (k := 1) (N := 60) C hn A rfl (by decide +kernel) (by decide) (by decide) (by decide) (by omega) (by omega) (fun H A => ?_)
  have A : cAt E s (ws0 ++ ([.inr (8, [.int 0, .int 0, .int 0, .null, .null, .null, .null, .null, .null]), aI E 60])) H locs := A
  refine cPutF (idx := 11) (j := 0) (sl := 3) C hn A rfl (by decide) (by decide) (sT_in (n := 369) (by decide +kernel) rfl) rfl rfl rfl (Nat.le_of_ble_eq_true rfl) (by decide +kernel) (fun H locs A => ?_)
  have A : cAt E s (ws0 ++ ([.inr (8, [.int 0, .int 0, .int 0, .ref (ad E (n + 1)), .null, .null, .null, .null, .null]), aI E 60])) H locs := A
  refine lv_aload_n (k := 0) hx hb (by decide +kernel) rfl (lv_at hl 0 rfl) ?_
  refine lv_bipush (n := 60) (v := 60) hx hb (by decide +kernel) (by decide) ?_
  refine cArI (k := 2) (N := 60) C hn A rfl (by decide +kernel) (by decide) (by decide) (by decide) (by omega) (by omega) (fun H A => ?_)
  have A : cAt E s (ws0 ++ ([.inr (8, [.int 0, .int 0, .int 0, .ref (ad E (n + 1)), .null, .null, .null, .null, .null]), aI E 60, aI E 60])) H locs := A
  refine cPutF (idx := 15) (j := 0) (sl := 4) C hn A rfl (by decide) (by decide) (sT_in (n := 372) (by decide +kernel) rfl) rfl rfl rfl (Nat.le_of_ble_eq_true rfl) (by decide +kernel) (fun H locs A => ?_)
  have A : cAt E s (ws0 ++ ([.inr (8, [.int 0, .int 0, .int 0, .ref (ad E (n + 1)), .ref (ad E (n + 2)), .null, .null, .null, .null]), aI E 60, aI E 60])) H locs := A
  refine lv_aload_n (k := 0) hx hb (by decide +kernel) rfl (lv_at hl 0 rfl) ?_
  refine lv_bipush (n := 60) (v := 60) hx hb (by decide +kernel) (by decide) ?_
  refine cArI (k := 3) (N := 60) C hn A rfl (by decide +kernel) (by decide) (by decide) (by decide) (by omega) (by omega) (fun H A => ?_)
  have A : cAt E s (ws0 ++ ([.inr (8, [.int 0, .int 0, .int 0, .ref (ad E (n + 1)), .ref (ad E (n + 2)), .null, .null, .null, .null]), aI E 60, aI E 60, aI E 60])) H locs := A
  refine cPutF (idx := 18) (j := 0) (sl := 5) C hn A rfl (by decide) (by decide) (sT_in (n := 375) (by decide +kernel) rfl) rfl rfl rfl (Nat.le_of_ble_eq_true rfl) (by decide +kernel) (fun H locs A => ?_)
  have A : cAt E s (ws0 ++ ([.inr (8, [.int 0, .int 0, .int 0, .ref (ad E (n + 1)), .ref (ad E (n + 2)), .ref (ad E (n + 3)), .null, .null, .null]), aI E 60, aI E 60, aI E 60])) H locs := A
  refine lv_aload_n (k := 0) hx hb (by decide +kernel) rfl (lv_at hl 0 rfl) ?_
  refine lv_bipush (n := 60) (v := 60) hx hb (by decide +kernel) (by decide) ?_
  refine cArI (k := 4) (N := 60) C hn A rfl (by decide +kernel) (by decide) (by decide) (by decide) (by omega) (by omega) (fun H A => ?_)
  have A : cAt E s (ws0 ++ ([.inr (8, [.int 0, .int 0, .int 0, .ref (ad E (n + 1)), .ref (ad E (n + 2)), .ref (ad E (n + 3)), .null, .null, .null]), aI E 60, aI E 60, aI E 60, aI E 60])) H locs := A
  refine cPutF (idx := 21) (j := 0) (sl := 6) C hn A rfl (by decide) (by decide) (sT_in (n := 378) (by decide +kernel) rfl) rfl rfl rfl (Nat.le_of_ble_eq_true rfl) (by decide +kernel) (fun H locs A => ?_)
  have A : cAt E s (ws0 ++ ([.inr (8, [.int 0, .int 0, .int 0, .ref (ad E (n + 1)), .ref (ad E (n + 2)), .ref (ad E (n + 3)), .ref (ad E (n + 4)), .null, .null]), aI E 60, aI E 60, aI E 60, aI E 60])) H locs := A
  refine lv_aload_n (k := 0) hx hb (by decide +kernel) rfl (lv_at hl 0 rfl) ?_
  refine lv_bipush (n := 60) (v := 60) hx hb (by decide +kernel) (by decide) ?_
  refine cArI (k := 5) (N := 60) C hn A rfl (by decide +kernel) (by decide) (by decide) (by decide) (by omega) (by omega) (fun H A => ?_)
  have A : cAt E s (ws0 ++ ([.inr (8, [.int 0, .int 0, .int 0, .ref (ad E (n + 1)), .ref (ad E (n + 2)), .ref (ad E (n + 3)), .ref (ad E (n + 4)), .null, .null]), aI E 60, aI E 60, aI E 60, aI E 60, aI E 60])) H locs := A
  refine cPutF (idx := 24) (j := 0) (sl := 7) C hn A rfl (by decide) (by decide) (sT_in (n := 381) (by decide +kernel) rfl) rfl rfl rfl (Nat.le_of_ble_eq_true rfl) (by decide +kernel) (fun H locs A => ?_)
  have A : cAt E s (ws0 ++ ([.inr (8, [.int 0, .int 0, .int 0, .ref (ad E (n + 1)), .ref (ad E (n + 2)), .ref (ad E (n + 3)), .ref (ad E (n + 4)), .ref (ad E (n + 5)), .null]), aI E 60, aI E 60, aI E 60, aI E 60, aI E 60])) H locs := A
  refine lv_aload_n (k := 0) hx hb (by decide +kernel) rfl (lv_at hl 0 rfl) ?_
  refine lv_bipush (n := 60) (v := 60) hx hb (by decide +kernel) (by decide) ?_
  refine cArI (k := 6) (N := 60) C hn A rfl (by decide +kernel) (by decide) (by decide) (by decide) (by omega) (by omega) (fun H A => ?_)
  have A : cAt E s (ws0 ++ ([.inr (8, [.int 0, .int 0, .int 0, .ref (ad E (n + 1)), .ref (ad E (n + 2)), .ref (ad E (n + 3)), .ref (ad E (n + 4)), .ref (ad E (n + 5)), .null]), aI E 60, aI E 60, aI E 60, aI E 60, aI E 60, aI E 60])) H locs := A
  refine cPutF (idx := 27) (j := 0) (sl := 8) C hn A rfl (by decide) (by decide) (sT_in (n := 384) (by decide +kernel) rfl) rfl rfl rfl (Nat.le_of_ble_eq_true rfl) (by decide +kernel) (fun H locs A => ?_)
  have A : cAt E s (ws0 ++ ([.inr (8, [.int 0, .int 0, .int 0, .ref (ad E (n + 1)), .ref (ad E (n + 2)), .ref (ad E (n + 3)), .ref (ad E (n + 4)), .ref (ad E (n + 5)), .ref (ad E (n + 6))]), aI E 60, aI E 60, aI E 60, aI E 60, aI E 60, aI E 60])) H locs := A
  exact fin H locs 52 ls A (by decide +kernel)
/-- ClockRiver$Life: what its constructor makes -/
def oX1 (E : sE) (n : Nat) : List va_E := [.inr (1, [.int 0, .int 0, .int 0, .int 0, .int 0, .int 0, .int 0, .int 0, .null, .null, .ref (ad E (n + 1))]), aI E 60]
theorem yi1 : yI yX1_init cX1_init 1 := ⟨sT_in (n := 582) (by decide +kernel) rfl, sT_in (n := 148) (by decide +kernel) rfl, sT_in (n := 581) (by decide +kernel) rfl, by decide +kernel, by decide, rfl⟩
theorem k_X1 {l : Launch} (hE : sEn E) (ws0 : List va_E) (n : Nat) (hn : ws0.length = n) : cM l E yX1_init cX1_init 1 1 1 60 n (ws0 ++ [.inr (1, bX1)]) (ws0 ++ oX1 E n) := by
  refine cM_of (own := 1) hE (by decide +kernel) rfl rfl (by decide) ?_
  intro p e R s m args below meth c Q C hR fin H ls A hl
  obtain ⟨r1, r2⟩ := hR
  obtain ⟨hx, hb, -⟩ := C.2.1
  have hl : lv_has ls 1 [(0, .ref (ad E (n + 0)))] := hl
  obtain ⟨locs, hlocs⟩ : ∃ locs : List Loc, locs = [] := ⟨_, rfl⟩
  rw [← hlocs] at A ⊢
  have A : cAt E s (ws0 ++ ([.inr (1, [.int 0, .int 0, .int 0, .int 0, .int 0, .int 0, .int 0, .int 0, .null, .null, .null])])) H locs := A
  refine lv_aload_n (k := 0) hx hb (by decide +kernel) rfl (lv_at hl 0 rfl) ?_
  refine cObj (idx := 3) C (sT_in (n := 583) (by decide +kernel) rfl) (by decide) hl.1 (by decide) (by decide +kernel) ?_
  refine lv_aload_n (k := 0) hx hb (by decide +kernel) rfl (lv_at hl 0 rfl) ?_
  refine lv_bipush (n := 60) (v := 60) hx hb (by decide +kernel) (by decide) ?_
  refine cArI (k := 1) (N := 60) C hn A rfl (by decide +kernel) (by decide) (by decide) (by decide) (by omega) (by omega) (fun H A => ?_)
  have A : cAt E s (ws0 ++ ([.inr (1, [.int 0, .int 0, .int 0, .int 0, .int 0, .int 0, .int 0, .int 0, .null, .null, .null]), aI E 60])) H locs := A
  refine cPutF (idx := 11) (j := 0) (sl := 10) C hn A rfl (by decide) (by decide) (sT_in (n := 596) (by decide +kernel) rfl) rfl rfl rfl (Nat.le_of_ble_eq_true rfl) (by decide +kernel) (fun H locs A => ?_)
  have A : cAt E s (ws0 ++ ([.inr (1, [.int 0, .int 0, .int 0, .int 0, .int 0, .int 0, .int 0, .int 0, .null, .null, .ref (ad E (n + 1))]), aI E 60])) H locs := A
  exact fin H locs 12 ls A (by decide +kernel)
/-- ClockRiver$Tape: what its constructor makes -/
def oX6 (E : sE) (n : Nat) : List va_E := [.inr (6, [.ref (ad E (n + 1)), .int 0, .int (-1), .int (-1), .int 0, .long 0, .int 0, .int 0, .int 0, .ref (ad E (n + 2)), .ref (ad E (n + 3)), .ref (ad E (n + 4))]), aB E 900, aI E 901, aI E 901, aL E 901]
theorem yi6 : yI yX6_init cX6_init 1 := ⟨sT_in (n := 431) (by decide +kernel) rfl, sT_in (n := 144) (by decide +kernel) rfl, sT_in (n := 430) (by decide +kernel) rfl, by decide +kernel, by decide, rfl⟩
theorem k_X6 {l : Launch} (hE : sEn E) (ws0 : List va_E) (n : Nat) (hn : ws0.length = n) : cM l E yX6_init cX6_init 1 1 4 3603 n (ws0 ++ [.inr (6, bX6)]) (ws0 ++ oX6 E n) := by
  refine cM_of (own := 6) hE (by decide +kernel) rfl rfl (by decide) ?_
  intro p e R s m args below meth c Q C hR fin H ls A hl
  obtain ⟨r1, r2⟩ := hR
  obtain ⟨hx, hb, -⟩ := C.2.1
  have hl : lv_has ls 1 [(0, .ref (ad E (n + 0)))] := hl
  obtain ⟨locs, hlocs⟩ : ∃ locs : List Loc, locs = [] := ⟨_, rfl⟩
  rw [← hlocs] at A ⊢
  have A : cAt E s (ws0 ++ ([.inr (6, [.null, .int 0, .int 0, .int 0, .int 0, .long 0, .int 0, .int 0, .int 0, .null, .null, .null])])) H locs := A
  refine lv_aload_n (k := 0) hx hb (by decide +kernel) rfl (lv_at hl 0 rfl) ?_
  refine cObj (idx := 3) C (sT_in (n := 432) (by decide +kernel) rfl) (by decide) hl.1 (by decide) (by decide +kernel) ?_
  refine lv_aload_n (k := 0) hx hb (by decide +kernel) rfl (lv_at hl 0 rfl) ?_
  refine lv_sipush (n := 900) (v := 900) hx hb (by decide +kernel) (by decide) ?_
  refine cArB (k := 1) (N := 900) C hn A rfl (by decide +kernel) (by decide) (by decide) (by decide) (by omega) (by omega) (fun H A => ?_)
  have A : cAt E s (ws0 ++ ([.inr (6, [.null, .int 0, .int 0, .int 0, .int 0, .long 0, .int 0, .int 0, .int 0, .null, .null, .null]), aB E 900])) H locs := A
  refine cPutF (idx := 9) (j := 0) (sl := 0) C hn A rfl (by decide) (by decide) (sT_in (n := 433) (by decide +kernel) rfl) rfl rfl rfl (Nat.le_of_ble_eq_true rfl) (by decide +kernel) (fun H locs A => ?_)
  have A : cAt E s (ws0 ++ ([.inr (6, [.ref (ad E (n + 1)), .int 0, .int 0, .int 0, .int 0, .long 0, .int 0, .int 0, .int 0, .null, .null, .null]), aB E 900])) H locs := A
  refine lv_aload_n (k := 0) hx hb (by decide +kernel) rfl (lv_at hl 0 rfl) ?_
  refine lv_iconst (n := (-1)) (v := (-1)) hx hb (by decide +kernel) (by decide) ?_
  refine cPut (ci := 6) (idx := 15) (j := 0) (sl := 2) C hn A rfl (by decide) (by decide) (sT_in (n := 436) (by decide +kernel) rfl) rfl rfl rfl (Nat.le_of_ble_eq_true rfl) (by decide +kernel) (fun H locs A => ?_)
  have A : cAt E s (ws0 ++ ([.inr (6, [.ref (ad E (n + 1)), .int 0, .int (-1), .int 0, .int 0, .long 0, .int 0, .int 0, .int 0, .null, .null, .null]), aB E 900])) H locs := A
  refine lv_aload_n (k := 0) hx hb (by decide +kernel) rfl (lv_at hl 0 rfl) ?_
  refine lv_iconst (n := (-1)) (v := (-1)) hx hb (by decide +kernel) (by decide) ?_
  refine cPut (ci := 6) (idx := 19) (j := 0) (sl := 3) C hn A rfl (by decide) (by decide) (sT_in (n := 438) (by decide +kernel) rfl) rfl rfl rfl (Nat.le_of_ble_eq_true rfl) (by decide +kernel) (fun H locs A => ?_)
  have A : cAt E s (ws0 ++ ([.inr (6, [.ref (ad E (n + 1)), .int 0, .int (-1), .int (-1), .int 0, .long 0, .int 0, .int 0, .int 0, .null, .null, .null]), aB E 900])) H locs := A
  refine lv_aload_n (k := 0) hx hb (by decide +kernel) rfl (lv_at hl 0 rfl) ?_
  refine lv_sipush (n := 901) (v := 901) hx hb (by decide +kernel) (by decide) ?_
  refine cArI (k := 2) (N := 901) C hn A rfl (by decide +kernel) (by decide) (by decide) (by decide) (by omega) (by omega) (fun H A => ?_)
  have A : cAt E s (ws0 ++ ([.inr (6, [.ref (ad E (n + 1)), .int 0, .int (-1), .int (-1), .int 0, .long 0, .int 0, .int 0, .int 0, .null, .null, .null]), aB E 900, aI E 901])) H locs := A
  refine cPutF (idx := 22) (j := 0) (sl := 9) C hn A rfl (by decide) (by decide) (sT_in (n := 451) (by decide +kernel) rfl) rfl rfl rfl (Nat.le_of_ble_eq_true rfl) (by decide +kernel) (fun H locs A => ?_)
  have A : cAt E s (ws0 ++ ([.inr (6, [.ref (ad E (n + 1)), .int 0, .int (-1), .int (-1), .int 0, .long 0, .int 0, .int 0, .int 0, .ref (ad E (n + 2)), .null, .null]), aB E 900, aI E 901])) H locs := A
  refine lv_aload_n (k := 0) hx hb (by decide +kernel) rfl (lv_at hl 0 rfl) ?_
  refine lv_sipush (n := 901) (v := 901) hx hb (by decide +kernel) (by decide) ?_
  refine cArI (k := 3) (N := 901) C hn A rfl (by decide +kernel) (by decide) (by decide) (by decide) (by omega) (by omega) (fun H A => ?_)
  have A : cAt E s (ws0 ++ ([.inr (6, [.ref (ad E (n + 1)), .int 0, .int (-1), .int (-1), .int 0, .long 0, .int 0, .int 0, .int 0, .ref (ad E (n + 2)), .null, .null]), aB E 900, aI E 901, aI E 901])) H locs := A
  refine cPutF (idx := 26) (j := 0) (sl := 10) C hn A rfl (by decide) (by decide) (sT_in (n := 452) (by decide +kernel) rfl) rfl rfl rfl (Nat.le_of_ble_eq_true rfl) (by decide +kernel) (fun H locs A => ?_)
  have A : cAt E s (ws0 ++ ([.inr (6, [.ref (ad E (n + 1)), .int 0, .int (-1), .int (-1), .int 0, .long 0, .int 0, .int 0, .int 0, .ref (ad E (n + 2)), .ref (ad E (n + 3)), .null]), aB E 900, aI E 901, aI E 901])) H locs := A
  refine lv_aload_n (k := 0) hx hb (by decide +kernel) rfl (lv_at hl 0 rfl) ?_
  refine lv_sipush (n := 901) (v := 901) hx hb (by decide +kernel) (by decide) ?_
  refine cArL (k := 4) (N := 901) C hn A rfl (by decide +kernel) (by decide) (by decide) (by decide) (by omega) (by omega) (fun H A => ?_)
  have A : cAt E s (ws0 ++ ([.inr (6, [.ref (ad E (n + 1)), .int 0, .int (-1), .int (-1), .int 0, .long 0, .int 0, .int 0, .int 0, .ref (ad E (n + 2)), .ref (ad E (n + 3)), .null]), aB E 900, aI E 901, aI E 901, aL E 901])) H locs := A
  refine cPutF (idx := 29) (j := 0) (sl := 11) C hn A rfl (by decide) (by decide) (sT_in (n := 453) (by decide +kernel) rfl) rfl rfl rfl (Nat.le_of_ble_eq_true rfl) (by decide +kernel) (fun H locs A => ?_)
  have A : cAt E s (ws0 ++ ([.inr (6, [.ref (ad E (n + 1)), .int 0, .int (-1), .int (-1), .int 0, .long 0, .int 0, .int 0, .int 0, .ref (ad E (n + 2)), .ref (ad E (n + 3)), .ref (ad E (n + 4))]), aB E 900, aI E 901, aI E 901, aL E 901])) H locs := A
  exact fin H locs 50 ls A (by decide +kernel)
/-- ClockRiver$RiverReader: what its constructor makes -/
def oX5 (E : sE) (n : Nat) : List va_E := [.inr (5, [.null, .null, .long 0, .int 0])]
theorem yi5 : yI yX5_init cX5_init 1 := ⟨sT_in (n := 484) (by decide +kernel) rfl, sT_in (n := 145) (by decide +kernel) rfl, sT_in (n := 483) (by decide +kernel) rfl, by decide +kernel, by decide, rfl⟩
theorem k_X5 {l : Launch} (hE : sEn E) (ws0 : List va_E) (n : Nat) (hn : ws0.length = n) : cM l E yX5_init cX5_init 1 1 0 0 n (ws0 ++ [.inr (5, bX5)]) (ws0 ++ oX5 E n) := by
  refine cM_of (own := 5) hE (by decide +kernel) rfl rfl (by decide) ?_
  intro p e R s m args below meth c Q C hR fin H ls A hl
  obtain ⟨r1, r2⟩ := hR
  obtain ⟨hx, hb, -⟩ := C.2.1
  have hl : lv_has ls 1 [(0, .ref (ad E (n + 0)))] := hl
  obtain ⟨locs, hlocs⟩ : ∃ locs : List Loc, locs = [] := ⟨_, rfl⟩
  rw [← hlocs] at A ⊢
  have A : cAt E s (ws0 ++ ([.inr (5, [.null, .null, .long 0, .int 0])])) H locs := A
  refine lv_aload_n (k := 0) hx hb (by decide +kernel) rfl (lv_at hl 0 rfl) ?_
  refine cObj (idx := 3) C (sT_in (n := 485) (by decide +kernel) rfl) (by decide) hl.1 (by decide) (by decide +kernel) ?_
  exact fin H locs 4 ls A (by decide +kernel)
/-- ClockRiver$River: what its constructor makes -/
def oX4 (E : sE) (n : Nat) : List va_E := [.inr (4, [.int 0, .int 1, .int 5, .int 4, .int 0, .int 0, .int 0, .ref (ad E (n + 1)), .ref (ad E (n + 2)), .ref (ad E (n + 9)), .ref (ad E (n + 14))]), aL E 6] ++ (oX3 E (n + 2) ++ (oX2 E (n + 9) ++ (oX10 E (n + 14))))
theorem yi4 : yI yX4_init cX4_init 1 := ⟨sT_in (n := 168) (by decide +kernel) rfl, sT_in (n := 138) (by decide +kernel) rfl, sT_in (n := 167) (by decide +kernel) rfl, by decide +kernel, by decide, rfl⟩
theorem k_X4 (hX : cX E) {l : Launch} (hE : sEn E) (ws0 : List va_E) (n : Nat) (hn : ws0.length = n) : cM l E yX4_init cX4_init 1 2 19 114 n (ws0 ++ [.inr (4, bX4)]) (ws0 ++ oX4 E n) := by
  refine cM_of (own := 4) hE (by decide +kernel) rfl rfl (by decide) ?_
  intro p e R s m args below meth c Q C hR fin H ls A hl
  obtain ⟨r1, r2⟩ := hR
  obtain ⟨hx, hb, -⟩ := C.2.1
  have hl : lv_has ls 1 [(0, .ref (ad E (n + 0)))] := hl
  obtain ⟨locs, hlocs⟩ : ∃ locs : List Loc, locs = [] := ⟨_, rfl⟩
  rw [← hlocs] at A ⊢
  have A : cAt E s (ws0 ++ ([.inr (4, [.int 0, .int 0, .int 0, .int 0, .int 0, .int 0, .int 0, .null, .null, .null, .null])])) H locs := A
  refine lv_aload_n (k := 0) hx hb (by decide +kernel) rfl (lv_at hl 0 rfl) ?_
  refine cObj (idx := 3) C (sT_in (n := 169) (by decide +kernel) rfl) (by decide) hl.1 (by decide) (by decide +kernel) ?_
  refine lv_aload_n (k := 0) hx hb (by decide +kernel) rfl (lv_at hl 0 rfl) ?_
  refine lv_iconst (n := 1) (v := 1) hx hb (by decide +kernel) (by decide) ?_
  refine cPut (ci := 4) (idx := 9) (j := 0) (sl := 1) C hn A rfl (by decide) (by decide) (sT_in (n := 294) (by decide +kernel) rfl) rfl rfl rfl (Nat.le_of_ble_eq_true rfl) (by decide +kernel) (fun H locs A => ?_)
  have A : cAt E s (ws0 ++ ([.inr (4, [.int 0, .int 1, .int 0, .int 0, .int 0, .int 0, .int 0, .null, .null, .null, .null])])) H locs := A
  refine lv_aload_n (k := 0) hx hb (by decide +kernel) rfl (lv_at hl 0 rfl) ?_
  refine lv_iconst (n := 5) (v := 5) hx hb (by decide +kernel) (by decide) ?_
  refine cPut (ci := 4) (idx := 15) (j := 0) (sl := 2) C hn A rfl (by decide) (by decide) (sT_in (n := 297) (by decide +kernel) rfl) rfl rfl rfl (Nat.le_of_ble_eq_true rfl) (by decide +kernel) (fun H locs A => ?_)
  have A : cAt E s (ws0 ++ ([.inr (4, [.int 0, .int 1, .int 5, .int 0, .int 0, .int 0, .int 0, .null, .null, .null, .null])])) H locs := A
  refine lv_aload_n (k := 0) hx hb (by decide +kernel) rfl (lv_at hl 0 rfl) ?_
  refine lv_iconst (n := 4) (v := 4) hx hb (by decide +kernel) (by decide) ?_
  refine cPut (ci := 4) (idx := 18) (j := 0) (sl := 3) C hn A rfl (by decide) (by decide) (sT_in (n := 300) (by decide +kernel) rfl) rfl rfl rfl (Nat.le_of_ble_eq_true rfl) (by decide +kernel) (fun H locs A => ?_)
  have A : cAt E s (ws0 ++ ([.inr (4, [.int 0, .int 1, .int 5, .int 4, .int 0, .int 0, .int 0, .null, .null, .null, .null])])) H locs := A
  refine lv_aload_n (k := 0) hx hb (by decide +kernel) rfl (lv_at hl 0 rfl) ?_
  refine lv_bipush (n := 6) (v := 6) hx hb (by decide +kernel) (by decide) ?_
  refine cArL (k := 1) (N := 6) C hn A rfl (by decide +kernel) (by decide) (by decide) (by decide) (by omega) (by omega) (fun H A => ?_)
  have A : cAt E s (ws0 ++ ([.inr (4, [.int 0, .int 1, .int 5, .int 4, .int 0, .int 0, .int 0, .null, .null, .null, .null]), aL E 6])) H locs := A
  refine cPutF (idx := 21) (j := 0) (sl := 7) C hn A rfl (by decide) (by decide) (sT_in (n := 312) (by decide +kernel) rfl) rfl rfl rfl (Nat.le_of_ble_eq_true rfl) (by decide +kernel) (fun H locs A => ?_)
  have A : cAt E s (ws0 ++ ([.inr (4, [.int 0, .int 1, .int 5, .int 4, .int 0, .int 0, .int 0, .ref (ad E (n + 1)), .null, .null, .null]), aL E 6])) H locs := A
  refine lv_aload_n (k := 0) hx hb (by decide +kernel) rfl (lv_at hl 0 rfl) ?_
  refine cNew (idx := 25) (k := 2) (ci := 3) (fs := bX3) (NN := 7) rfl C hn A rfl (by decide) (sT_in (n := 170) (by decide +kernel) rfl) (sT_in (n := 171) (by decide +kernel) rfl) (sT_in (n := 139) (by decide +kernel) rfl) df3 (by omega) (by omega) (by decide +kernel) (fun H A => ?_)
  have A : cAt E s (ws0 ++ ([.inr (4, [.int 0, .int 1, .int 5, .int 4, .int 0, .int 0, .int 0, .ref (ad E (n + 1)), .null, .null, .null]), aL E 6, .inr (3, bX3)])) H locs := A
  refine lv_dup hx hb (by decide +kernel) rfl ?_
  have M : cM l E yX3_init cX3_init 1 1 6 36 (n + 2) (ws0 ++ ([.inr (4, [.int 0, .int 1, .int 5, .int 4, .int 0, .int 0, .int 0, .ref (ad E (n + 1)), .null, .null, .null]), aL E 6, .inr (3, bX3)])) (ws0 ++ ([.inr (4, [.int 0, .int 1, .int 5, .int 4, .int 0, .int 0, .int 0, .ref (ad E (n + 1)), .null, .null, .null]), aL E 6] ++ (oX3 E (n + 2)))) := by
    have M := k_X3 (l := l) hE (ws0 ++ ([.inr (4, [.int 0, .int 1, .int 5, .int 4, .int 0, .int 0, .int 0, .ref (ad E (n + 1)), .null, .null, .null]), aL E 6])) (n + 2) (by rw [List.length_append, hn]; rfl)
    simp only [List.append_assoc] at M
    exact M
  refine cCalN (host := "ClockRiver") (idx := 27) (y := yX3_init) (hX.nest (i := 172) (by decide +kernel) rfl) C A M (by decide) yi3 (Nat.le_of_ble_eq_true rfl) hl.1 (by simp [Value.category]) (by omega) (by decide +kernel) (fun H locs A => ?_)
  have A : cAt E s (ws0 ++ ([.inr (4, [.int 0, .int 1, .int 5, .int 4, .int 0, .int 0, .int 0, .ref (ad E (n + 1)), .null, .null, .null]), aL E 6] ++ (oX3 E (n + 2)))) H locs := A
  refine cPutF (idx := 28) (j := 0) (sl := 8) C hn A rfl (by decide) (by decide) (sT_in (n := 314) (by decide +kernel) rfl) rfl rfl rfl (Nat.le_of_ble_eq_true rfl) (by decide +kernel) (fun H locs A => ?_)
  have A : cAt E s (ws0 ++ ([.inr (4, [.int 0, .int 1, .int 5, .int 4, .int 0, .int 0, .int 0, .ref (ad E (n + 1)), .ref (ad E (n + 2)), .null, .null]), aL E 6] ++ (oX3 E (n + 2)))) H locs := A
  refine lv_aload_n (k := 0) hx hb (by decide +kernel) rfl (lv_at hl 0 rfl) ?_
  refine cNew (idx := 32) (k := 9) (ci := 2) (fs := bX2) (NN := 5) rfl C hn A rfl (by decide) (sT_in (n := 217) (by decide +kernel) rfl) (sT_in (n := 218) (by decide +kernel) rfl) (sT_in (n := 140) (by decide +kernel) rfl) df2 (by omega) (by omega) (by decide +kernel) (fun H A => ?_)
  have A : cAt E s (ws0 ++ ([.inr (4, [.int 0, .int 1, .int 5, .int 4, .int 0, .int 0, .int 0, .ref (ad E (n + 1)), .ref (ad E (n + 2)), .null, .null]), aL E 6] ++ (oX3 E (n + 2) ++ ([.inr (2, bX2)])))) H locs := A
  refine lv_dup hx hb (by decide +kernel) rfl ?_
  have M : cM l E yX2_init cX2_init 1 1 4 24 (n + 9) (ws0 ++ ([.inr (4, [.int 0, .int 1, .int 5, .int 4, .int 0, .int 0, .int 0, .ref (ad E (n + 1)), .ref (ad E (n + 2)), .null, .null]), aL E 6] ++ (oX3 E (n + 2) ++ ([.inr (2, bX2)])))) (ws0 ++ ([.inr (4, [.int 0, .int 1, .int 5, .int 4, .int 0, .int 0, .int 0, .ref (ad E (n + 1)), .ref (ad E (n + 2)), .null, .null]), aL E 6] ++ (oX3 E (n + 2) ++ (oX2 E (n + 9))))) := by
    have M := k_X2 (l := l) hE (ws0 ++ ([.inr (4, [.int 0, .int 1, .int 5, .int 4, .int 0, .int 0, .int 0, .ref (ad E (n + 1)), .ref (ad E (n + 2)), .null, .null]), aL E 6] ++ (oX3 E (n + 2)))) (n + 9) (by rw [List.length_append, hn]; rfl)
    simp only [List.append_assoc] at M
    exact M
  refine cCalN (host := "ClockRiver") (idx := 34) (y := yX2_init) (hX.nest (i := 219) (by decide +kernel) rfl) C A M (by decide) yi2 (Nat.le_of_ble_eq_true rfl) hl.1 (by simp [Value.category]) (by omega) (by decide +kernel) (fun H locs A => ?_)
  have A : cAt E s (ws0 ++ ([.inr (4, [.int 0, .int 1, .int 5, .int 4, .int 0, .int 0, .int 0, .ref (ad E (n + 1)), .ref (ad E (n + 2)), .null, .null]), aL E 6] ++ (oX3 E (n + 2) ++ (oX2 E (n + 9))))) H locs := A
  refine cPutF (idx := 35) (j := 0) (sl := 9) C hn A rfl (by decide) (by decide) (sT_in (n := 320) (by decide +kernel) rfl) rfl rfl rfl (Nat.le_of_ble_eq_true rfl) (by decide +kernel) (fun H locs A => ?_)
  have A : cAt E s (ws0 ++ ([.inr (4, [.int 0, .int 1, .int 5, .int 4, .int 0, .int 0, .int 0, .ref (ad E (n + 1)), .ref (ad E (n + 2)), .ref (ad E (n + 9)), .null]), aL E 6] ++ (oX3 E (n + 2) ++ (oX2 E (n + 9))))) H locs := A
  refine lv_aload_n (k := 0) hx hb (by decide +kernel) rfl (lv_at hl 0 rfl) ?_
  refine cNew (idx := 39) (k := 14) (ci := 10) (fs := bX10) (NN := 6) rfl C hn A rfl (by decide) (sT_in (n := 252) (by decide +kernel) rfl) (sT_in (n := 253) (by decide +kernel) rfl) (sT_in (n := 141) (by decide +kernel) rfl) df10 (by omega) (by omega) (by decide +kernel) (fun H A => ?_)
  have A : cAt E s (ws0 ++ ([.inr (4, [.int 0, .int 1, .int 5, .int 4, .int 0, .int 0, .int 0, .ref (ad E (n + 1)), .ref (ad E (n + 2)), .ref (ad E (n + 9)), .null]), aL E 6] ++ (oX3 E (n + 2) ++ (oX2 E (n + 9) ++ ([.inr (10, bX10)]))))) H locs := A
  refine lv_dup hx hb (by decide +kernel) rfl ?_
  have M : cM l E yX10_init cX10_init 1 1 5 30 (n + 14) (ws0 ++ ([.inr (4, [.int 0, .int 1, .int 5, .int 4, .int 0, .int 0, .int 0, .ref (ad E (n + 1)), .ref (ad E (n + 2)), .ref (ad E (n + 9)), .null]), aL E 6] ++ (oX3 E (n + 2) ++ (oX2 E (n + 9) ++ ([.inr (10, bX10)]))))) (ws0 ++ ([.inr (4, [.int 0, .int 1, .int 5, .int 4, .int 0, .int 0, .int 0, .ref (ad E (n + 1)), .ref (ad E (n + 2)), .ref (ad E (n + 9)), .null]), aL E 6] ++ (oX3 E (n + 2) ++ (oX2 E (n + 9) ++ (oX10 E (n + 14)))))) := by
    have M := k_X10 (l := l) hE (ws0 ++ ([.inr (4, [.int 0, .int 1, .int 5, .int 4, .int 0, .int 0, .int 0, .ref (ad E (n + 1)), .ref (ad E (n + 2)), .ref (ad E (n + 9)), .null]), aL E 6] ++ (oX3 E (n + 2) ++ (oX2 E (n + 9))))) (n + 14) (by rw [List.length_append, hn]; rfl)
    simp only [List.append_assoc] at M
    exact M
  refine cCalN (host := "ClockRiver") (idx := 41) (y := yX10_init) (hX.nest (i := 254) (by decide +kernel) rfl) C A M (by decide) yi10 (Nat.le_of_ble_eq_true rfl) hl.1 (by simp [Value.category]) (by omega) (by decide +kernel) (fun H locs A => ?_)
  have A : cAt E s (ws0 ++ ([.inr (4, [.int 0, .int 1, .int 5, .int 4, .int 0, .int 0, .int 0, .ref (ad E (n + 1)), .ref (ad E (n + 2)), .ref (ad E (n + 9)), .null]), aL E 6] ++ (oX3 E (n + 2) ++ (oX2 E (n + 9) ++ (oX10 E (n + 14)))))) H locs := A
  refine cPutF (idx := 42) (j := 0) (sl := 10) C hn A rfl (by decide) (by decide) (sT_in (n := 326) (by decide +kernel) rfl) rfl rfl rfl (Nat.le_of_ble_eq_true rfl) (by decide +kernel) (fun H locs A => ?_)
  have A : cAt E s (ws0 ++ ([.inr (4, [.int 0, .int 1, .int 5, .int 4, .int 0, .int 0, .int 0, .ref (ad E (n + 1)), .ref (ad E (n + 2)), .ref (ad E (n + 9)), .ref (ad E (n + 14))]), aL E 6] ++ (oX3 E (n + 2) ++ (oX2 E (n + 9) ++ (oX10 E (n + 14)))))) H locs := A
  exact fin H locs 60 ls A (by decide +kernel)
/-- ClockRiver$WeeksReader: what its constructor makes -/
def oX9 (E : sE) (n : Nat) : List va_E := [.inr (9, [.ref (ad E (n + 1)), .null, .null, .int 0, .int 0, .ref (ad E (n + 8))])] ++ (oX8 E (n + 1) ++ ([aI E 3]))
theorem yi9 : yI yX9_init cX9_init 1 := ⟨sT_in (n := 503) (by decide +kernel) rfl, sT_in (n := 146) (by decide +kernel) rfl, sT_in (n := 502) (by decide +kernel) rfl, by decide +kernel, by decide, rfl⟩
theorem k_X9 (hX : cX E) {l : Launch} (hE : sEn E) (ws0 : List va_E) (n : Nat) (hn : ws0.length = n) : cM l E yX9_init cX9_init 1 2 8 372 n (ws0 ++ [.inr (9, bX9)]) (ws0 ++ oX9 E n) := by
  refine cM_of (own := 9) hE (by decide +kernel) rfl rfl (by decide) ?_
  intro p e R s m args below meth c Q C hR fin H ls A hl
  obtain ⟨r1, r2⟩ := hR
  obtain ⟨hx, hb, -⟩ := C.2.1
  have hl : lv_has ls 1 [(0, .ref (ad E (n + 0)))] := hl
  obtain ⟨locs, hlocs⟩ : ∃ locs : List Loc, locs = [] := ⟨_, rfl⟩
  rw [← hlocs] at A ⊢
  have A : cAt E s (ws0 ++ ([.inr (9, [.null, .null, .null, .int 0, .int 0, .null])])) H locs := A
  refine lv_aload_n (k := 0) hx hb (by decide +kernel) rfl (lv_at hl 0 rfl) ?_
  refine cObj (idx := 3) C (sT_in (n := 504) (by decide +kernel) rfl) (by decide) hl.1 (by decide) (by decide +kernel) ?_
  refine lv_aload_n (k := 0) hx hb (by decide +kernel) rfl (lv_at hl 0 rfl) ?_
  refine cNew (idx := 9) (k := 1) (ci := 8) (fs := bX8) (NN := 9) rfl C hn A rfl (by decide) (sT_in (n := 505) (by decide +kernel) rfl) (sT_in (n := 356) (by decide +kernel) rfl) (sT_in (n := 142) (by decide +kernel) rfl) df8 (by omega) (by omega) (by decide +kernel) (fun H A => ?_)
  have A : cAt E s (ws0 ++ ([.inr (9, [.null, .null, .null, .int 0, .int 0, .null]), .inr (8, bX8)])) H locs := A
  refine lv_dup hx hb (by decide +kernel) rfl ?_
  have M : cM l E yX8_init cX8_init 1 1 6 360 (n + 1) (ws0 ++ ([.inr (9, [.null, .null, .null, .int 0, .int 0, .null]), .inr (8, bX8)])) (ws0 ++ ([.inr (9, [.null, .null, .null, .int 0, .int 0, .null])] ++ (oX8 E (n + 1)))) := by
    have M := k_X8 (l := l) hE (ws0 ++ ([.inr (9, [.null, .null, .null, .int 0, .int 0, .null])])) (n + 1) (by rw [List.length_append, hn]; rfl)
    simp only [List.append_assoc] at M
    exact M
  refine cCalN (host := "ClockRiver") (idx := 11) (y := yX8_init) (hX.nest (i := 506) (by decide +kernel) rfl) C A M (by decide) yi8 (Nat.le_of_ble_eq_true rfl) hl.1 (by simp [Value.category]) (by omega) (by decide +kernel) (fun H locs A => ?_)
  have A : cAt E s (ws0 ++ ([.inr (9, [.null, .null, .null, .int 0, .int 0, .null])] ++ (oX8 E (n + 1)))) H locs := A
  refine cPutF (idx := 12) (j := 0) (sl := 0) C hn A rfl (by decide) (by decide) (sT_in (n := 507) (by decide +kernel) rfl) rfl rfl rfl (Nat.le_of_ble_eq_true rfl) (by decide +kernel) (fun H locs A => ?_)
  have A : cAt E s (ws0 ++ ([.inr (9, [.ref (ad E (n + 1)), .null, .null, .int 0, .int 0, .null])] ++ (oX8 E (n + 1)))) H locs := A
  refine lv_aload_n (k := 0) hx hb (by decide +kernel) rfl (lv_at hl 0 rfl) ?_
  refine lv_iconst (n := 3) (v := 3) hx hb (by decide +kernel) (by decide) ?_
  refine cArI (k := 8) (N := 3) C hn A rfl (by decide +kernel) (by decide) (by decide) (by decide) (by omega) (by omega) (fun H A => ?_)
  have A : cAt E s (ws0 ++ ([.inr (9, [.ref (ad E (n + 1)), .null, .null, .int 0, .int 0, .null])] ++ (oX8 E (n + 1) ++ ([aI E 3])))) H locs := A
  refine cPutF (idx := 18) (j := 0) (sl := 5) C hn A rfl (by decide) (by decide) (sT_in (n := 513) (by decide +kernel) rfl) rfl rfl rfl (Nat.le_of_ble_eq_true rfl) (by decide +kernel) (fun H locs A => ?_)
  have A : cAt E s (ws0 ++ ([.inr (9, [.ref (ad E (n + 1)), .null, .null, .int 0, .int 0, .ref (ad E (n + 8))])] ++ (oX8 E (n + 1) ++ ([aI E 3])))) H locs := A
  exact fin H locs 22 ls A (by decide +kernel)
end C98zv
