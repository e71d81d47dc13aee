theorem ex_no {P : Nat → Prop} {n : Nat} (h : ¬ P n) : (∃ e, e < n ∧ P e) ↔ ∃ e, e < n + 1 ∧ P e := by
  constructor
  · rintro ⟨e, he, hp⟩; exact ⟨e, by omega, hp⟩
  · rintro ⟨e, he, hp⟩
    by_cases q : e = n
    · rw [q] at hp; exact absurd hp h
    · exact ⟨e, by omega, hp⟩
theorem ex_or {P : Nat → Prop} {n : Nat} : (∃ e, e < n + 1 ∧ P e) ↔ (∃ e, e < n ∧ P e) ∨ P n := by
  constructor
  · rintro ⟨e, he, hp⟩
    by_cases q : e = n
    · rw [q] at hp; exact Or.inr hp
    · exact Or.inl ⟨e, by omega, hp⟩
  · rintro (⟨e, he, hp⟩ | hp)
    · exact ⟨e, by omega, hp⟩
    · exact ⟨n, by omega, hp⟩
theorem ex_0 {P : Nat → Prop} : False ↔ ∃ e, e < 0 ∧ P e := ⟨fun h => h.elim, fun ⟨e, h, _⟩ => absurd h (Nat.not_lt_zero e)⟩
theorem b_0F {i : Nat} : (bt (nI 0) i = true) ↔ False := by
  rw [show nI 0 = (0 : Int32) from rfl, b_0]; simp
theorem b_or_iff {x y : Int32} {i : Nat} : bt (x ||| y) i = true ↔ bt x i = true ∨ bt y i = true := by rw [b_or, Bool.or_eq_true]
theorem b_and_iff {x y : Int32} {i : Nat} : bt (x &&& y) i = true ↔ bt x i = true ∧ bt y i = true := by rw [b_and, Bool.and_eq_true]
theorem and_ne {x y : Int32} (h : lo16 x) : (x &&& y).toInt ≠ 0 ↔ ∃ a, a < 16 ∧ bt x a = true ∧ bt y a = true := by
  have e : (x &&& y).toInt ≠ 0 ↔ (x &&& y) ≠ 0 := by
    rw [Ne, Ne, ← Int32.toInt_inj]; exact Iff.rfl
  rw [e, lo_ne (lo_and h)]
  constructor
  · rintro ⟨a, ha, q⟩; exact ⟨a, ha, b_and_iff.mp q⟩
  · rintro ⟨a, ha, q⟩; exact ⟨a, ha, b_and_iff.mpr q⟩
theorem DOk.lo {cnt : Nat} {D : Nat → Int32} (h : DOk cnt D) (x : Nat) : lo16 (D x) := by
  by_cases hx : x < cnt
  · exact h.1 x hx
  · rw [h.2 x (by omega)]; exact lo_0
theorem ways_le (B : Bk) (D : Nat → Int32) (k t w : Nat) : ways B D k t w ≤ 4096 := by
  have h := sm_le (n := 16) (b := 256) (f := fun i => sm 16 (fun j => sm 16 (fun l => i1 (mayB B D k t w 0 i ∧ mayB B D k t w 1 j ∧ mayB B D k t w 2 l ∧ met B k i j l)))) (fun i _ => sm_le (n := 16) (b := 16) (fun j _ => sm_le (n := 16) (b := 1) (fun l _ => i1_le _)))
  exact h
/-- entry e of list r has v at place t, a and b at the two behind it -/
def le4 (B : Bk) (r t v a b e : Nat) : Prop := mat (B.en (36 * r + 3 * e + t)) v ∧ mat (B.en (36 * r + 3 * e + (t + 1) % 3)) a ∧ mat (B.en (36 * r + 3 * e + (t + 2) % 3)) b
/-- entry e of list r leaves v at place t beside the two domains -/
def ls4 (B : Bk) (r t v : Nat) (nx la : Int32) (e : Nat) : Prop := (∃ a, a < 16 ∧ bt nx a = true ∧ mat (B.en (36 * r + 3 * e + (t + 1) % 3)) a) ∧ (∃ b, b < 16 ∧ bt la b = true ∧ mat (B.en (36 * r + 3 * e + (t + 2) % 3)) b) ∧ mat (B.en (36 * r + 3 * e + t)) v
theorem ls4_lcm {B : Bk} {r t v : Nat} {nx la : Int32} : (∃ e, e < B.ls r ∧ ls4 B r t v nx la e) ↔ ∃ a b, a < 16 ∧ b < 16 ∧ bt nx a = true ∧ bt la b = true ∧ lcm4 B r t v a b := by
  constructor
  · rintro ⟨e, he, ⟨a, ha, h1, h2⟩, ⟨b, hb, h3, h4⟩, h5⟩
    exact ⟨a, b, ha, hb, h1, h3, e, he, h5, h2, h4⟩
  · rintro ⟨a, b, ha, hb, h1, h3, e, he, h5, h2, h4⟩
    exact ⟨e, he, ⟨a, ha, h1, h2⟩, ⟨b, hb, h3, h4⟩, h5⟩
theorem LOk.at {B : Bk} {mt : Nat → Int32} (h : LOk B mt) {r e t : Nat} (hr : r < 4) (he : e < B.ls r) : lo16 (mt ((r * 12 + e) * 3 + t % 3)) ∧ ∀ v, v < 16 → (bt (mt ((r * 12 + e) * 3 + t % 3)) v = true ↔ mat (B.en (36 * r + 3 * e + t % 3)) v) :=
  h r e (t % 3) hr he (Nat.mod_lt _ (by omega))
theorem flt_L {cnt : Nat} {B : Bk} {D : Nat → Int32} {k t r : Nat} {S : Int32} (hB : BOk cnt B) (hk : k < B.1) (ht : t < 3) (h3 : ¬ (B.mb (3 * k + 2)).toInt < 0) (h : B.kd k = 3) (hr4 : r < 4) (hr : B.nu k = nI r)
    (hS : lo16 S ∧ ∀ v, v < 16 → (bt S v = true ↔ bt (D (B.vx k t)) v = true ∧ ∃ a b, a < 16 ∧ b < 16 ∧ bt (D (B.vx k ((t + 1) % 3))) a = true ∧ bt (D (B.vx k ((t + 2) % 3))) b = true ∧ lcm4 B r t v a b)) : Flt B D k t S := by
  refine ⟨hS.1, fun v hv => ?_⟩
  rw [hS.2 v hv]
  refine and_congr_right (fun _ => ?_)
  rw [← ways_pos, ways_L hB hk ht hv h3 h hr4 hr]
  unfold lway
  constructor
  · rintro ⟨a, b, ha, hb, q⟩
    exact sm_pos.mpr ⟨a, ha, sm_pos.mpr ⟨b, hb, i1_pos.mpr q⟩⟩
  · intro q
    obtain ⟨a, ha, q⟩ := sm_pos.mp q
    obtain ⟨b, hb, q⟩ := sm_pos.mp q
    exact ⟨a, b, ha, hb, i1_pos.mp q⟩
theorem tot_le2 {cnt : Nat} {B : Bk} {D : Nat → Int32} (hB : BOk cnt B) (hD : DOk cnt D) {k q : Nat} (hp : Pl B k q) {S : Int32} (hF : Flt B D k q S) : tot (upd D (B.vx k q) S) ≤ tot D := by
  by_cases e : S = D (B.vx k q)
  · rw [e, upd_self]; exact Nat.le_refl _
  · exact Nat.le_of_lt (tot_step hB hD hp hF e)
theorem NEm.step {cnt : Nat} {D : Nat → Int32} (h : NEm cnt D) {x : Nat} {S : Int32} (hS : S.toInt ≠ 0) : NEm cnt (upd D x S) := by
  intro y hy
  by_cases e : y = x
  · rw [e, pk_us]
    intro q
    rw [q] at hS
    exact hS rfl
  · rw [pk_un e]; exact h y hy
