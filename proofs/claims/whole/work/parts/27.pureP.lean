theorem cpy_e0 {f g : Nat → Int32} {n : Nat} : upd (va_cpy f g 0 0 n) n (f n) = va_cpy f g 0 0 (n + 1) := by
  have h := cpy_ext (f := f) (g := g) (sp := 0) (dp := 0) (n := n)
  rw [Nat.zero_add] at h
  exact h
theorem cpy_e1 {f g : Nat → Int32} {k n : Nat} : upd (va_cpy f g 0 (k * 8) n) (8 * k + n) (f n) = va_cpy f g 0 (k * 8) (n + 1) := by
  have h := cpy_ext (f := f) (g := g) (sp := 0) (dp := k * 8) (n := n)
  rw [Nat.zero_add, Nat.mul_comm k 8] at h
  rw [Nat.mul_comm k 8]
  exact h
theorem cpy_e2 {f g : Nat → Int32} {k n : Nat} : upd (va_cpy f g (k * 8) 0 n) n (f (8 * k + n)) = va_cpy f g (k * 8) 0 (n + 1) := by
  have h := cpy_ext (f := f) (g := g) (sp := k * 8) (dp := 0) (n := n)
  rw [Nat.zero_add, Nat.mul_comm k 8] at h
  rw [Nat.mul_comm k 8]
  exact h
theorem bP_fit (P : Prop) : fits .boolean (.int (bP P)) = true := by
  by_cases h : P
  · rw [bP_t h]; rfl
  · rw [bP_f h]; rfl
theorem tot_cnt {cnt : Nat} {D : Nat → Int32} (hc : cnt ≤ 8) (hD : DOk cnt D) : sm cnt (fun x => pcn (D x)) = tot D := by
  have key : ∀ n, cnt ≤ n → sm n (fun x => pcn (D x)) = sm cnt (fun x => pcn (D x)) := by
    intro n
    induction n with
    | zero => intro h; rw [Nat.le_zero.mp h]
    | succ k ih =>
      intro h
      by_cases e : cnt = k + 1
      · rw [e]
      · show sm k _ + pcn (D k) = _
        rw [ih (by omega), hD.2 k (by omega), pcn_0, Nat.add_zero]
  exact (key 8 hc).symm
theorem ways_256 {cnt : Nat} {B : Bk} {D : Nat → Int32} {k q v : Nat} (hB : BOk cnt B) (hp : Pl B k q) (hv : v < 16) : ways B D k q v ≤ 256 := by
  by_cases h3 : (B.mb (3 * k + 2)).toInt < 0
  · have hq : q < 2 := by
      refine Classical.byContradiction fun z => hp.2.2 ?_
      have hq3 := hp.2.1
      rw [show q = 2 by omega]; exact h3
    rw [ways2 hB hp.1 hq hv h3]
    have := sm_le (n := 16) (b := 1) (f := fun a => i1 (bt (D (B.vx k ((q + 1) % 2))) a = true ∧ ((q = 0 → met B k v a 0) ∧ (q = 1 → met B k a v 0)))) (fun a _ => i1_le _)
    omega
  · rw [ways3 hB hp.1 hp.2.1 hv h3]
    exact sm_le (n := 16) (b := 16) (fun a _ => sm_le (n := 16) (b := 1) (fun b _ => i1_le _))
theorem bst_neg {cnt : Nat} {B : Bk} {D : Nat → Int32} (hB : BOk cnt B) {n : Nat} (hn : n ≤ 8) : (bst B D n).1.toInt < 0 ↔ (bst B D n).1 = -1 := by
  rcases (bst_in (D := D) hB n hn).2.2 with h | ⟨x, hx, e, _⟩
  · rw [h.1, nI_neg1]; exact ⟨fun _ => rfl, fun _ => by omega⟩
  · rw [e, nI_toInt (by omega)]
    exact ⟨fun h => by omega, fun h => absurd h (nI_nm1 (by omega))⟩
