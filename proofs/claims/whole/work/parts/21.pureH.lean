theorem adv_s0 {cnt n r : Nat} {B : Bk} {s t : TS} (hn : 0 < n) (h : Tst cnt B s r t) (hr : r ≠ 1) : Adv cnt B n s r t := by
  obtain ⟨k, rfl⟩ : ∃ k, n = k + 1 := ⟨n - 1, by omega⟩
  exact Or.inr ⟨h, hr⟩
theorem adv_s1 {cnt n r : Nat} {B : Bk} {s s1 t : TS} (hn : 0 < n) (h : Tst cnt B s 1 s1) (h2 : Adv cnt B (n - 1) s1 r t) : Adv cnt B n s r t := by
  obtain ⟨k, rfl⟩ : ∃ k, n = k + 1 := ⟨n - 1, by omega⟩
  exact Or.inl ⟨s1, h, h2⟩
theorem adv_0 {cnt n : Nat} {B : Bk} {s : TS} (hn : n = 0) : Adv cnt B n s 1 s := by
  subst hn; exact ⟨rfl, rfl⟩
theorem max_dp {p : Nat} (h : p < 2 ^ 30) : (if nI p - 1 < nI 0 then nI 0 else nI p - 1) = nI (p - 1) := by
  have h0 : (nI 0).toInt = 0 := by decide
  by_cases q : p = 0
  · subst q; rfl
  · rw [if_neg, dp_nat (by omega)]
    rw [Int32.lt_iff_toInt_lt, dp_toInt h, h0]; omega
/-- the same book with another number of rules -/
def reB (B : Bk) (n : Nat) : Bk := (n, B.2)
