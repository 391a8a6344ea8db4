/-! 98zz3: the start: the classes, the array classes, the String -/
section C98zz3
variable {s : State} {b L : Nat} {xs : Nat → Int32}
theorem k_in (n : Nat) (hn : n < 13) : Cond.instantiable (kRn n) (knf (n + 1)) ∈ sT := match n, hn with
  | 0, _ => sT_in (n := 530) (by decide +kernel) rfl
  | 1, _ => sT_in (n := 579) (by decide +kernel) rfl
  | 2, _ => sT_in (n := 218) (by decide +kernel) rfl
  | 3, _ => sT_in (n := 171) (by decide +kernel) rfl
  | 4, _ => sT_in (n := 165) (by decide +kernel) rfl
  | 5, _ => sT_in (n := 481) (by decide +kernel) rfl
  | 6, _ => sT_in (n := 428) (by decide +kernel) rfl
  | 7, _ => sT_in (n := 407) (by decide +kernel) rfl
  | 8, _ => sT_in (n := 356) (by decide +kernel) rfl
  | 9, _ => sT_in (n := 500) (by decide +kernel) rfl
  | 10, _ => sT_in (n := 253) (by decide +kernel) rfl
  | 11, _ => sT_in (n := 157) (by decide +kernel) rfl
  | 12, _ => sT_in (n := 1446) (by decide +kernel) rfl
  | n + 13, hn => absurd hn (by omega)
theorem st_D {a : Array Value} (hts : ∀ w ∈ sT, w.before a s = true) : ∃ D : va_G, ∀ n, n < 13 → u_Kn s (kRn n) (kTt n) (knf (n + 1)) (D.1 n) (D.2 n) := by
  have h : ∀ n : Nat, ∃ q : ClassId × (Nat → Nat), n < 13 → u_Kn s (kRn n) (kTt n) (knf (n + 1)) q.1 q.2 := by
    intro n
    by_cases hn : n < 13
    · obtain ⟨c, i, h⟩ := u_known (N := knf (n + 1)) hts (kU n hn) (hts _ (k_in n hn))
      exact ⟨(c, i), fun _ => h⟩
    · exact ⟨(0, fun _ => 0), fun h => absurd h hn⟩
  exact ⟨(fun n => (Classical.choose (h n)).1, fun n => (Classical.choose (h n)).2), fun n hn => Classical.choose_spec (h n) hn⟩
theorem st_N {a : Array Value} {ty : FieldType} (h : (Cond.arrayClass ty).before a s = true) : ∃ c, ArrOfT s c ty ∧ s.vm.findClass ("[" ++ ty.toString) = some c := by
  obtain ⟨c, k, comp, h1, h2, h3⟩ := Cond.arrayClass_spec h
  exact ⟨c, fun n z => ⟨fun k h => (by cases h), k, h2, comp, h3⟩, h1⟩
theorem st_Q {a : Array Value} {C : String} (h : (Cond.arrayOver (.object C)).before a s = true) : ∃ c, ArrOfT s c (.object C) ∧ va_RA s c (.object C) := by
  obtain ⟨comp, c, k, h1, -, h3, h4, h5⟩ := Cond.arrayOver_spec h
  exact ⟨c, fun n z => ⟨fun k h => (by cases h), k, h3, comp, h4⟩, k, comp, h3, h4, h1, h5⟩
theorem st_A {a : Array Value} {t : FieldType} (h : (Cond.arrayOver (.array t)).before a s = true) : ∃ c, ArrOfT s c (.array t) ∧ s.vm.findClass ("[" ++ (FieldType.array t).toString) = some c := by
  obtain ⟨comp, c, k, h1, -, h3, h4, h5⟩ := arrayOverA_spec h
  exact ⟨c, fun n z => ⟨fun k h => (by cases h), k, h3, comp, h4⟩, h5⟩
theorem st_K {a : Array Value} (hts : ∀ w ∈ lw_tbl, w.before a s = true) : ∃ (D : va_G) (T : Nat → ClassId), va_K D vwCl [(T 0, .int), (T 1, .long), (T 2, .byte), (T 3, .object "ClockRiver$River"), (T 4, .object "ClockRiver$Weeks"), (T 5, .array .long)] s := by
  have hts' : ∀ w ∈ sT, w.before a s = true := fun w hw => hts w (List.mem_filter.mp hw).1
  obtain ⟨D, hD⟩ := st_D hts'
  obtain ⟨c0, p0, q0⟩ := st_N (hts' _ w_aI)
  obtain ⟨c1, p1, q1⟩ := st_N (hts' _ w_aL)
  obtain ⟨c2, p2, q2⟩ := st_N (hts' _ w_aB)
  obtain ⟨c3, p3, q3⟩ := st_Q (hts (Cond.arrayOver (.object "ClockRiver$River")) (List.mem_of_getElem? (i := 527) (by decide +kernel)))
  obtain ⟨c4, p4, q4⟩ := st_Q (hts (Cond.arrayOver (.object "ClockRiver$Weeks")) (List.mem_of_getElem? (i := 528) (by decide +kernel)))
  obtain ⟨c5, p5, q5⟩ := st_A (hts (Cond.arrayOver (.array .long)) (List.mem_of_getElem? (i := 413) (by decide +kernel)))
  refine ⟨D, fun k => match k with
    | 0 => c0
    | 1 => c1
    | 2 => c2
    | 3 => c3
    | 4 => c4
    | _ => c5, fun c q hq => ?_, fun k q hq => ?_⟩
  · have hc : c < 13 := (List.getElem?_eq_some_iff.mp hq).1
    rw [kcl c hc] at hq
    cases hq
    exact hD c hc
  · have hk : k < 6 := (List.getElem?_eq_some_iff.mp hq).1
    have ck : k = 0 ∨ k = 1 ∨ k = 2 ∨ k = 3 ∨ k = 4 ∨ k = 5 := by omega
    rcases ck with rfl | rfl | rfl | rfl | rfl | rfl <;> cases hq
    · exact ⟨p0, q0⟩
    · exact ⟨p1, q1⟩
    · exact ⟨p2, q2⟩
    · exact ⟨p3, q3⟩
    · exact ⟨p4, q4⟩
    · exact ⟨p5, q5⟩
/-! the String -/
abbrev tW : Term := Term.string "ClockRiver$Tape" 97
abbrev tV : Term := Term.field tW "java/lang/String" "value" "[B"
abbrev gN : Cond := Jvm.Cond.and given_1 narrow_1
theorem w_s1 : Cond.exactly tW "java/lang/String" ∈ flatC gN := by decide +kernel
theorem w_s2 : Cond.eq (.field tW "java/lang/String" "coder" "B") (.int 0) ∈ flatC gN := by decide +kernel
theorem w_s3 : Cond.arrayOf tV .byte ∈ flatC gN := by decide +kernel
theorem w_s4 : Cond.eq (.length tV) (.int (Int32.ofNat 147)) ∈ flatC gN := by decide +kernel
theorem w_s5 : ∀ j, j < 147 → Cond.eq (.elem tV (.int (Int32.ofNat j))) (.int (kWb.getD j 0)) ∈ flatC gN := by decide +kernel
theorem w_s6 : Cond.eq (.static "java/lang/String" "COMPACT_STRINGS" "Z") (.int 1) ∈ flatC gN := by decide +kernel
theorem w_s7 : Cond.isRef (.static "jdk/internal/util/Preconditions" "SIOOBE_FORMATTER" "Ljava/util/function/BiFunction;") ∈ flatC gN := by decide +kernel
theorem w_s8 : Cond.stringRef "ClockRiver$Tape" 97 kWt ∈ lw_tbl := List.mem_of_getElem? (i := 774) (by decide +kernel)
theorem w_s9 : Cond.laysStatic "java/lang/String" "COMPACT_STRINGS" "Z" ∈ lw_tbl := List.mem_of_getElem? (i := 784) (by decide +kernel)
theorem w_s10 : Cond.laysStatic "jdk/internal/util/Preconditions" "SIOOBE_FORMATTER" "Ljava/util/function/BiFunction;" ∈ lw_tbl := List.mem_of_getElem? (i := 800) (by decide +kernel)
theorem w_s11 : Cond.initialized "java/lang/String" ∈ lw_tbl := List.mem_of_getElem? (i := 152) (by decide +kernel)
theorem w_s12 : Cond.initialized "jdk/internal/util/Preconditions" ∈ lw_tbl := List.mem_of_getElem? (i := 154) (by decide +kernel)
theorem st_E {a : Array Value} (hts : ∀ w ∈ lw_tbl, w.before a s = true) (hg : gN.before a s = true) (hb : b < s.heap.size) (hL : L ≤ 3072) : ∃ (D : va_G) (T : Nat → ClassId) (aw av : Nat), sEn (s, b, L, D, T, aw, av) := by
  obtain ⟨D, T, hK⟩ := st_K hts
  have hq := flat_of_before _ hg
  obtain ⟨adK, adV, hS, hev⟩ := vk_Sof (N := 1) (tm := fun _ => tW) (len := [147]) (byt := [kWb]) (A := fun q => s.heap.size ≤ q) (args := a) (s := s)
    (fun i hi => by rcases (show i = 0 by omega) with rfl; decide) (fun _ _ => hq _ w_s1) (fun _ _ => hq _ w_s2) (fun _ _ => hq _ w_s3)
    (fun i hi => by rcases (show i = 0 by omega) with rfl; exact hq _ w_s4) (fun i hi j hj => by rcases (show i = 0 by omega) with rfl; exact hq _ (w_s5 j hj))
    (fun i j hi hj h => absurd (by omega) h) (fun q hq => by omega)
  obtain ⟨v, hv, hvr⟩ := Cond.isRef_spec (hq _ w_s7)
  refine ⟨D, T, adK 0, adV 0, hK, hb, hL, vk_R.of (hts _ w_s8) (hev 0 (by omega)), ?_, va_Zof (hts _ w_s9) (hts _ w_s11) (va_eqi (hq _ w_s6)) (fun q hq => Nat.not_le.mpr hq), v, va_Zof (hts _ w_s10) (hts _ w_s12) hv (fun q hq => Nat.not_le.mpr hq), ?_⟩
  · refine ⟨fun i hi => ?_, fun i j hi hj _ => by omega⟩
    rcases (show i = 0 by omega) with rfl
    exact hS.1 0 (by omega)
  · cases v <;> first | rfl | exact Bool.noConfusion (show false = true from hvr) | cases hvr
end C98zz3
