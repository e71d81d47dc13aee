theorem prp_ok {cnt p p1 : Nat} {V : Prop} {dr br un dm : Nat → Int32} {x : Nat} (hv : V) (hp0 : 0 < p1) (hp1 : p1 ≤ p) (htop : topN un p1 = topN un p) (hx : x < 8) (hbr : br (p1 - 1) = nI x) (hun : un (p1 - 1) ≠ 0) :
    Prp p V dr br un dm 1 p1 (upd un (p1 - 1) (un (p1 - 1) ^^^ lbt (un (p1 - 1)))) (upd (va_cpy dr dm (p1 * 8) 0 8) x (lbt (un (p1 - 1)))) := by
  obtain ⟨d, rfl⟩ : ∃ d, p1 = d + 1 := ⟨p1 - 1, by omega⟩
  exact Or.inr (Or.inr ⟨hv, d, x, by rw [← htop]; exact topN_1 hp0 hun, by omega, hx, hbr, hun, rfl, rfl, rfl, rfl⟩)
theorem dmc_cut {dr dm : Nat → Int32} {p1 x : Nat} {m : Int32} (hz : ∀ y, 8 ≤ y → dm y = 0) (h : ∀ v, bt m v = true → bt (rwf dr p1 x) v = true) : upd (va_cpy dr dm (p1 * 8) 0 8) x m = cut (rwf dr p1) x m := by
  rw [cpy_rwf hz, upd_cut h]
