/-! 98zz1: the cells that the constructors leave picture mB (written by genfin.py) -/
section C98zz1
variable {E : sE} {xs : Nat → Int32} {L : Nat}
def eqE (E : sE) (x y : va_E) : Prop := ∀ (a : Nat) (H : Heap), va_at (eD E) vwCl (a, x) H → va_at (eD E) vwCl (a, y) H
theorem eI {x : va_E} : eqE E x x := fun _ _ h => h
theorem arrV_cg {cA : ClassId} {N : Nat} {f g : Nat → Value} (h : ∀ j, j < N → f j = g j) : arrV cA N f = arrV cA N g := by
  have e : (fun j : Fin N => f j.val) = fun j : Fin N => g j.val := funext fun j => h j.val j.isLt
  unfold arrV
  rw [e]
theorem eqI {t : ClassId} {N : Nat} {f g : Nat → Int32} (h : ∀ j, j < N → f j = g j) : eqE E (.inl (t, N, .inl f)) (.inl (t, N, .inl g)) := by
  intro a H hh
  have hh : H[a]? = some (vp_cell t (N, .inl f)) := hh
  show H[a]? = some (vp_cell t (N, .inl g))
  rw [hh, vp_cell_i, vp_cell_i, arrV_cg (fun j hj => by rw [h j hj])]
theorem eqL {t : ClassId} {N : Nat} {f g : Nat → Int64} (h : ∀ j, j < N → f j = g j) : eqE E (.inl (t, N, .inr (.inl f))) (.inl (t, N, .inr (.inl g))) := by
  intro a H hh
  have hh : H[a]? = some (vp_cell t (N, .inr (.inl f))) := hh
  show H[a]? = some (vp_cell t (N, .inr (.inl g)))
  rw [hh, vp_cell_l, vp_cell_l, arrV_cg (fun j hj => by rw [h j hj])]
theorem eqQ {t : ClassId} {N : Nat} {f g : Nat → Option Nat} (h : ∀ j, j < N → f j = g j) : eqE E (.inl (t, N, .inr (.inr (.inr (.inr f))))) (.inl (t, N, .inr (.inr (.inr (.inr g))))) := by
  intro a H hh
  have hh : H[a]? = some (vp_cell t (N, .inr (.inr (.inr (.inr f))))) := hh
  show H[a]? = some (vp_cell t (N, .inr (.inr (.inr (.inr g)))))
  rw [hh, vp_cell_q, vp_cell_q, arrV_cg (fun j hj => by rw [h j hj])]
def al2 (E : sE) : List va_E → List cE → Prop
  | [], [] => True
  | x :: xs, c :: cs => eqE E x (dc E c) ∧ al2 E xs cs
  | [], _ :: _ => False
  | _ :: _, [] => False
theorem al2_at : ∀ {ws : List va_E} {cs : List cE}, al2 E ws cs → ∀ {n : Nat} {x : va_E}, ws[n]? = some x → ∃ c, cs[n]? = some c ∧ eqE E x (dc E c)
  | [], [], _, n, x, hx => by simp at hx
  | y :: ys, c :: cs, h, 0, x, hx => by
    cases hx
    exact ⟨c, rfl, h.1⟩
  | y :: ys, c :: cs, h, n + 1, x, hx => al2_at h.2 (n := n) hx
  | [], _ :: _, h, _, _, _ => h.elim
  | _ :: _, [], h, _, _, _ => h.elim
set_option maxRecDepth 100000 in
set_option maxHeartbeats 4000000 in
theorem al_all : al2 E (oX11 E 0 ++ oX12 E 242) csF := by
  refine And.intro eI ?_
  refine And.intro eI ?_
  refine And.intro eI ?_
  refine And.intro eI ?_
  refine And.intro eI ?_
  refine And.intro eI ?_
  refine And.intro eI ?_
  refine And.intro eI ?_
  refine And.intro eI ?_
  refine And.intro eI ?_
  refine And.intro eI ?_
  refine And.intro eI ?_
  refine And.intro eI ?_
  refine And.intro eI ?_
  refine And.intro eI ?_
  refine And.intro eI ?_
  refine And.intro eI ?_
  refine And.intro eI ?_
  refine And.intro eI ?_
  refine And.intro eI ?_
  refine And.intro eI ?_
  refine And.intro eI ?_
  refine And.intro eI ?_
  refine And.intro eI ?_
  refine And.intro eI ?_
  refine And.intro eI ?_
  refine And.intro eI ?_
  refine And.intro eI ?_
  refine And.intro eI ?_
  refine And.intro (eqQ (fun j hj => by rw [if_pos hj, Nat.one_mul]; show some ((eS E).heap.size + _) = some ((eS E).heap.size + _); congr 2; omega)) ?_
  refine And.intro eI ?_
  refine And.intro eI ?_
  refine And.intro eI ?_
  refine And.intro eI ?_
  refine And.intro eI ?_
  refine And.intro (eqI (fun j hj => by have c : j = 0 ∨ j = 1 ∨ j = 2 ∨ j = 3 := (by omega); rcases c with rfl | rfl | rfl | rfl <;> rfl)) ?_
  refine And.intro eI ?_
  refine And.intro eI ?_
  refine And.intro eI ?_
  refine And.intro eI ?_
  refine And.intro eI ?_
  refine And.intro eI ?_
  refine And.intro eI ?_
  refine And.intro eI ?_
  refine And.intro eI ?_
  refine And.intro eI ?_
  refine And.intro eI ?_
  refine And.intro eI ?_
  refine And.intro eI ?_
  refine And.intro eI ?_
  refine And.intro eI ?_
  refine And.intro (eqQ (fun j hj => by have c : j = 0 ∨ j = 1 ∨ j = 2 := (by omega); rcases c with rfl | rfl | rfl <;> rfl)) ?_
  refine And.intro (eqQ (fun j hj => by have c : j = 0 ∨ j = 1 ∨ j = 2 := (by omega); rcases c with rfl | rfl | rfl <;> rfl)) ?_
  refine And.intro eI ?_
  refine And.intro eI ?_
  refine And.intro eI ?_
  refine And.intro eI ?_
  refine And.intro eI ?_
  refine And.intro eI ?_
  refine And.intro eI ?_
  refine And.intro eI ?_
  refine And.intro eI ?_
  refine And.intro eI ?_
  refine And.intro eI ?_
  refine And.intro eI ?_
  refine And.intro eI ?_
  refine And.intro eI ?_
  refine And.intro eI ?_
  refine And.intro eI ?_
  refine And.intro eI ?_
  refine And.intro eI ?_
  refine And.intro eI ?_
  refine And.intro eI ?_
  refine And.intro eI ?_
  refine And.intro eI ?_
  refine And.intro eI ?_
  refine And.intro eI ?_
  refine And.intro eI ?_
  refine And.intro eI ?_
  refine And.intro eI ?_
  refine And.intro eI ?_
  refine And.intro eI ?_
  refine And.intro eI ?_
  refine And.intro eI ?_
  refine And.intro eI ?_
  refine And.intro eI ?_
  refine And.intro eI ?_
  refine And.intro eI ?_
  refine And.intro eI ?_
  refine And.intro eI ?_
  refine And.intro eI ?_
  refine And.intro eI ?_
  refine And.intro eI ?_
  refine And.intro eI ?_
  refine And.intro eI ?_
  refine And.intro eI ?_
  refine And.intro eI ?_
  refine And.intro eI ?_
  refine And.intro eI ?_
  refine And.intro eI ?_
  refine And.intro eI ?_
  refine And.intro eI ?_
  refine And.intro eI ?_
  refine And.intro eI ?_
  refine And.intro eI ?_
  refine And.intro eI ?_
  refine And.intro eI ?_
  refine And.intro eI ?_
  refine And.intro eI ?_
  refine And.intro eI ?_
  refine And.intro eI ?_
  refine And.intro eI ?_
  refine And.intro eI ?_
  refine And.intro eI ?_
  refine And.intro eI ?_
  refine And.intro eI ?_
  refine And.intro eI ?_
  refine And.intro eI ?_
  refine And.intro eI ?_
  refine And.intro eI ?_
  refine And.intro eI ?_
  refine And.intro eI ?_
  refine And.intro eI ?_
  refine And.intro eI ?_
  refine And.intro eI ?_
  refine And.intro eI ?_
  refine And.intro eI ?_
  refine And.intro eI ?_
  refine And.intro eI ?_
  refine And.intro eI ?_
  refine And.intro eI ?_
  refine And.intro eI ?_
  refine And.intro eI ?_
  refine And.intro eI ?_
  refine And.intro eI ?_
  refine And.intro (eqQ (fun j hj => by have c : j = 0 ∨ j = 1 ∨ j = 2 ∨ j = 3 ∨ j = 4 := (by omega); rcases c with rfl | rfl | rfl | rfl | rfl <;> rfl)) ?_
  refine And.intro eI ?_
  refine And.intro eI ?_
  refine And.intro eI ?_
  refine And.intro eI ?_
  refine And.intro eI ?_
  refine And.intro eI ?_
  refine And.intro eI ?_
  refine And.intro eI ?_
  refine And.intro eI ?_
  refine And.intro eI ?_
  refine And.intro eI ?_
  refine And.intro eI ?_
  refine And.intro eI ?_
  refine And.intro eI ?_
  refine And.intro eI ?_
  refine And.intro eI ?_
  refine And.intro eI ?_
  refine And.intro eI ?_
  refine And.intro eI ?_
  refine And.intro eI ?_
  refine And.intro eI ?_
  refine And.intro eI ?_
  refine And.intro eI ?_
  refine And.intro eI ?_
  refine And.intro eI ?_
  refine And.intro eI ?_
  refine And.intro eI ?_
  refine And.intro eI ?_
  refine And.intro eI ?_
  refine And.intro eI ?_
  refine And.intro eI ?_
  refine And.intro eI ?_
  refine And.intro eI ?_
  refine And.intro eI ?_
  refine And.intro eI ?_
  refine And.intro eI ?_
  refine And.intro eI ?_
  refine And.intro eI ?_
  refine And.intro eI ?_
  refine And.intro eI ?_
  refine And.intro eI ?_
  refine And.intro eI ?_
  refine And.intro eI ?_
  refine And.intro eI ?_
  refine And.intro eI ?_
  refine And.intro eI ?_
  refine And.intro eI ?_
  refine And.intro eI ?_
  refine And.intro eI ?_
  refine And.intro eI ?_
  refine And.intro eI ?_
  refine And.intro eI ?_
  refine And.intro eI ?_
  refine And.intro eI ?_
  refine And.intro eI ?_
  refine And.intro eI ?_
  refine And.intro eI ?_
  refine And.intro eI ?_
  refine And.intro eI ?_
  refine And.intro eI ?_
  refine And.intro eI ?_
  refine And.intro eI ?_
  refine And.intro eI ?_
  refine And.intro eI ?_
  refine And.intro eI ?_
  refine And.intro eI ?_
  refine And.intro eI ?_
  refine And.intro eI ?_
  refine And.intro eI ?_
  refine And.intro eI ?_
  refine And.intro eI ?_
  refine And.intro eI ?_
  refine And.intro eI ?_
  refine And.intro eI ?_
  refine And.intro eI ?_
  refine And.intro eI ?_
  refine And.intro eI ?_
  refine And.intro eI ?_
  refine And.intro eI ?_
  refine And.intro eI ?_
  refine And.intro eI ?_
  refine And.intro eI ?_
  refine And.intro eI ?_
  refine And.intro eI ?_
  refine And.intro eI ?_
  refine And.intro eI ?_
  refine And.intro eI ?_
  refine And.intro eI ?_
  refine And.intro eI ?_
  refine And.intro eI ?_
  refine And.intro eI ?_
  refine And.intro eI ?_
  refine And.intro eI ?_
  refine And.intro eI ?_
  refine And.intro eI ?_
  refine And.intro eI ?_
  refine And.intro eI ?_
  refine And.intro eI ?_
  refine And.intro eI ?_
  refine And.intro eI ?_
  refine And.intro eI ?_
  refine And.intro eI ?_
  refine And.intro eI ?_
  refine And.intro eI ?_
  refine And.intro eI ?_
  refine And.intro eI ?_
  refine And.intro eI ?_
  refine And.intro eI ?_
  refine And.intro (eqI (fun j hj => by have c : j = 0 ∨ j = 1 ∨ j = 2 ∨ j = 3 := (by omega); rcases c with rfl | rfl | rfl | rfl <;> rfl)) ?_
  refine And.intro eI ?_
  refine And.intro eI ?_
  refine And.intro eI ?_
  refine And.intro eI ?_
  refine And.intro eI ?_
  refine And.intro eI ?_
  refine And.intro eI ?_
  refine And.intro eI ?_
  refine And.intro eI ?_
  refine And.intro eI ?_
  refine And.intro eI ?_
  refine And.intro eI ?_
  refine And.intro eI ?_
  exact trivial
set_option maxRecDepth 100000 in
theorem k_q : ∀ k, k < 80 → 4 ≤ kar k → (kae k).1 ≠ 0 ∧ ∀ j, j < kln k → kof (kae k).1 ((kae k).2 + j) = (qC k).1 + (qC k).2 * j := by decide +kernel
set_option maxRecDepth 100000 in
theorem k_f : ∀ k, k < 80 → ∀ j, j < knf k → kft k j = 2 → (kfr k j).1 ≠ 0 := by decide +kernel
theorem k_a : ∀ k, k < 80 → kar k ≠ 0 → 20 ≤ k ∧ (k = 42 ∨ k = 58 → kln k = 4) ∧ (kar k = 3 → k ≠ 42 ∧ k ≠ 58) := by decide +kernel
theorem k_l : ∀ n, n < 258 → 1 ≤ (kLV.getD n (0, 0)).1 ∧ (kLV.getD n (0, 0)).1 < 80 := by decide +kernel
theorem mB_v {k i j : Nat} (h : 1 ≤ k) : rI (mB xs L) k i j = vB k j := by
  have e : (k == 0) = false := by simp; omega
  show (bif k == 0 then _ else _) = _
  rw [e]
  rfl
theorem vB_a {k j : Nat} (h : 20 ≤ k) (h4 : (k = 42 ∨ k = 58) → j < 4) : vB k j = vB k 0 := by
  unfold vB
  have e5 : (k == 5) = false := by simp; omega
  have e7 : (k == 7) = false := by simp; omega
  have e13 : (k == 13) = false := by simp; omega
  rw [e5, e7, e13]
  by_cases c : k = 42 ∨ k = 58
  · have := h4 c
    have e : Nat.ble j 3 = true := Nat.ble_eq_true_of_le (by omega)
    rw [e]
    rfl
  · have e : (k == 42 || k == 58) = false := by simp; omega
    rw [e]
    rfl
theorem ent_eq {n : Nat} (hn : n < 258) : eqE E (dc E (eC (kLV.getD n (0, 0)))) (ent E (mB xs L) (kLV.getD n (0, 0))) := by
  obtain ⟨h1, h80⟩ := k_l n hn
  generalize kLV.getD n (0, 0) = q at h1 h80 ⊢
  obtain ⟨k, i⟩ := q
  have h1 : 1 ≤ k := h1
  have h80 : k < 80 := h80
  unfold eC ent
  have ka := k_a k h80
  have kq := k_q k h80
  cases hk : kar k with
  | zero =>
    show eqE E (.inr (k - 1, ((List.range (knf k)).map (fC k i)).map (dv E))) (.inr (k - 1, (List.range (knf k)).map (fval E (mB xs L) k i)))
    rw [List.map_map]
    have e : (List.range (knf k)).map (dv E ∘ fC k i) = (List.range (knf k)).map (fval E (mB xs L) k i) := by
      refine List.map_congr_left (fun j hj => ?_)
      have hj := List.mem_range.mp hj
      show dv E (fC k i j) = fval E (mB xs L) k i j
      unfold fC fval
      rcases hf : kft k j with _ | _ | _ | _ | _ | m
      · show Value.int (vB k j) = .int (rI (mB xs L) k i j)
        rw [mB_v h1]
      · rfl
      · show Value.ref (ad E (kof (kfd k j i).1 (kfd k j i).2)) = .ref (sad E (kfd k j i))
        unfold sad
        rw [if_neg (show ¬ (kfd k j i).1 = 0 from k_f k h80 j hj hf)]
      · rfl
      · show Value.int (vB k j) = .int (rI (mB xs L) k i j)
        rw [mB_v h1]
      · rfl
    rw [e]
    exact eI
  | succ m =>
    obtain ⟨a20, a4, a3⟩ := ka (by omega)
    match m, hk with
    | 0, hk => exact eqI (fun j hj => by rw [mB_v h1]; exact (vB_a a20 (fun c => by rw [a4 c] at hj; exact hj)).symm)
    | 1, hk =>
      refine eqL (fun j hj => ?_)
      have e12 : (k == 12) = false := by simp; omega
      have e13 : (k == 13) = false := by simp; omega
      show 0 = (bif (k == 12 && j == 2) || (k == 13 && j == 3) then (1 : Int64) else 0)
      rw [e12, e13]
      rfl
    | 2, hk => exact eqI (fun j hj => by rw [mB_v h1]; exact (vB_a a20 (fun c => by have := a3 hk; omega)).symm)
    | m + 3, hk =>
      obtain ⟨q0, qj⟩ := kq (by omega)
      refine eqQ (fun j hj => ?_)
      unfold sad
      rw [if_neg q0, qj j hj]
      rfl
set_option maxRecDepth 100000 in
/-- the world is whole -/
theorem fini (hX : va_X (eB E) (eL E) xs (eS E) (eS E).heap) {H : Heap} (h : cP E (oX11 E 0 ++ oX12 E 242) H) : sW E (mB xs (eL E)) H := by
  refine ⟨fun n q hq => ?_, ⟨hX, rfl⟩, h.2.2, fun k i j n _ h => by cases h⟩
  unfold wld at hq
  rw [List.getElem?_map] at hq
  cases hr : (List.range 258)[n]? with
  | none => rw [hr] at hq; cases hq
  | some z =>
    rw [hr] at hq
    have hz : n < 258 := by
      have := (List.getElem?_eq_some_iff.mp hr).1
      simpa using this
    rw [List.getElem?_range hz] at hr
    cases hr
    cases hq
    have hl : (oX11 E 0 ++ oX12 E 242).length = 258 := rfl
    obtain ⟨x, hx⟩ : ∃ x, (oX11 E 0 ++ oX12 E 242)[n]? = some x := ⟨_, List.getElem?_eq_getElem (by omega)⟩
    obtain ⟨c, hc, he⟩ := al2_at al_all hx
    rw [csF_ok, List.getElem?_map, List.getElem?_range hz] at hc
    cases hc
    exact ent_eq hz _ _ (he _ _ (h.1 n x hx))
end C98zz1
