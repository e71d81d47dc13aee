theorem pm_1 (p : Nat) : nI p - 1 + nI 1 = nI p := by
  rw [show nI 1 = (1 : Int32) from rfl]; exact Int32.sub_add_cancel _ _
theorem dp_up (p : Nat) : nI p - 1 + nI 1 = nI (p + 1) - 1 := by rw [pm_1, nI_pred]
theorem dp_toInt {p : Nat} (h : p < 2 ^ 30) : (nI p - 1).toInt = (p : Int) - 1 := by
  have h1 : (1 : Int32).toInt = 1 := by decide
  rw [t_sub (by rw [nI_toInt (by omega), h1]; omega), nI_toInt (by omega), h1]
theorem dp_nat {p : Nat} (h : 0 < p) : nI p - 1 = nI (p - 1) := pk_sub (b := 1) h
theorem dp_dn {p : Nat} (h : 0 < p) : nI p - 1 - nI 1 = nI (p - 1) - 1 := by rw [dp_nat h]; rfl
theorem cpy_rwf {dr E : Nat → Int32} {p : Nat} (h : ∀ x, 8 ≤ x → E x = 0) : va_cpy dr E (p * 8) 0 8 = rwf dr p := by
  funext x
  unfold rwf
  by_cases hx : x < 8
  · rw [pk_cpy_in (by omega) (by omega), if_pos hx, Nat.mul_comm p 8]
    rfl
  · rw [pk_cpy_out (by omega), if_neg hx, h x (by omega)]
theorem rwf_in {dr : Nat → Int32} {p x : Nat} (hx : x < 8) : rwf dr p x = dr (8 * p + x) := if_pos hx
theorem rwf_out {dr : Nat → Int32} {p x : Nat} (hx : 8 ≤ x) : rwf dr p x = 0 := if_neg (by omega)
theorem cpy_row {dr E : Nat → Int32} {p k : Nat} (h : ∀ x, 8 ≤ x → E x = 0) : rwf (va_cpy E dr 0 (p * 8) 8) k = if k = p then E else rwf dr k := by
  funext x
  by_cases hk : k = p
  · rw [if_pos hk, hk]
    by_cases hx : x < 8
    · rw [rwf_in hx, pk_cpy_in (by omega) (by omega)]
      congr 1
      omega
    · rw [rwf_out (by omega), h x (by omega)]
  · rw [if_neg hk]
    by_cases hx : x < 8
    · rw [rwf_in hx, rwf_in hx, pk_cpy_out (by omega)]
    · rw [rwf_out (by omega), rwf_out (by omega)]
theorem topN_0 {un : Nat → Int32} {p : Nat} (hp : 0 < p) (h : un (p - 1) = 0) : topN un (p - 1) = topN un p := by
  obtain ⟨d, rfl⟩ : ∃ d, p = d + 1 := ⟨p - 1, by omega⟩
  exact (if_pos h).symm
theorem topN_1 {un : Nat → Int32} {p : Nat} (hp : 0 < p) (h : un (p - 1) ≠ 0) : topN un p = p := by
  obtain ⟨d, rfl⟩ : ∃ d, p = d + 1 := ⟨p - 1, by omega⟩
  exact if_neg h
theorem t_ne0 {x : Int32} (h : x.toInt ≠ 0) : x ≠ 0 := fun e => h (by rw [e]; rfl)
/-- the lowest value -/
def lbt (x : Int32) : Int32 := x &&& (-x)
/-- what prepareVisit does -/
def Prp (p : Nat) (V : Prop) (dr br un dm : Nat → Int32) (r : Int32) (p1 : Nat) (un1 dm1 : Nat → Int32) : Prop :=
  (¬ V ∧ r = 1 ∧ p1 = p ∧ un1 = un ∧ dm1 = dm) ∨ (V ∧ topN un p = 0 ∧ r = 0 ∧ p1 = 0 ∧ un1 = un ∧ dm1 = dm) ∨
  (V ∧ ∃ d x, topN un p = d + 1 ∧ d < p ∧ x < 8 ∧ br d = nI x ∧ un d ≠ 0 ∧ r = 1 ∧ p1 = d + 1 ∧ un1 = upd un d (un d ^^^ lbt (un d)) ∧ dm1 = upd (va_cpy dr dm ((d + 1) * 8) 0 8) x (lbt (un d)))
/-- what visit does -/
def Vis (cnt : Nat) (B : Bk) (p : Nat) (vi fa so : Int32) (dr br un dm : Nat → Int32) (r : Int32) (p2 : Nat) (vi2 fa2 so2 : Int32) (dr2 br2 un2 dm2 : Nat → Int32) : Prop :=
  vi2 = vi + nI 1 ∧ ((NoClo cnt B dm ∧ r = 0 ∧ p2 = p ∧ fa2 = fa + nI 1 ∧ so2 = so ∧ dr2 = dr ∧ br2 = br ∧ un2 = un ∧ dm2 = rwf dr p) ∨
    ∃ E, IsClo cnt B dm E ∧ p2 = p + 1 ∧ fa2 = fa ∧ dr2 = va_cpy E dr 0 ((p + 1) * 8) 8 ∧ dm2 = E ∧
      (((bst B E 8).1 = -1 ∧ r = 1 ∧ so2 = so + nI 1 ∧ br2 = br ∧ un2 = upd un p (nI 0)) ∨
       ∃ x, x < 8 ∧ 1 < pcn (E x) ∧ (bst B E 8).1 = nI x ∧ r = 0 ∧ so2 = so ∧ br2 = upd br p (nI x) ∧ un2 = upd un p (E x)))
