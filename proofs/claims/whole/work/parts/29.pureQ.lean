def hrP (B : Bk) (k x t : Nat) : Prop := ∃ a, a < t ∧ Pl B k a ∧ B.vx k a = x
def otP (B : Bk) (D : Nat → Int32) (k x t : Nat) : Prop := ∃ a, a < t ∧ Pl B k a ∧ B.vx k a ≠ x ∧ 1 < pcn (D (B.vx k a))
theorem hr_0 {B : Bk} {k x : Nat} : ¬ hrP B k x 0 := fun ⟨a, h, _⟩ => absurd h (Nat.not_lt_zero a)
theorem ot_0 {B : Bk} {D : Nat → Int32} {k x : Nat} : ¬ otP B D k x 0 := fun ⟨a, h, _⟩ => absurd h (Nat.not_lt_zero a)
theorem hr_s {B : Bk} {k x t : Nat} : hrP B k x (t + 1) ↔ hrP B k x t ∨ (Pl B k t ∧ B.vx k t = x) := ex_or
theorem ot_s {B : Bk} {D : Nat → Int32} {k x t : Nat} : otP B D k x (t + 1) ↔ otP B D k x t ∨ (Pl B k t ∧ B.vx k t ≠ x ∧ 1 < pcn (D (B.vx k t))) := ex_or
theorem op_ho {B : Bk} {D : Nat → Int32} {k x : Nat} : opR B D k x ↔ hrP B k x 3 ∧ otP B D k x 3 := by
  unfold opR hrP otP
  constructor
  · rintro ⟨⟨a, h1, h2⟩, b, h3, h4⟩
    exact ⟨⟨a, h1.2.1, h1, h2⟩, b, h3.2.1, h3, h4⟩
  · rintro ⟨⟨a, _, h1, h2⟩, b, _, h3, h4⟩
    exact ⟨⟨a, h1, h2⟩, b, h3, h4⟩
/-- the start of a node: the domains before the search, cut by what was chosen above -/
def cutn (be ch tr : Nat → Int32) : Nat → (Nat → Int32)
  | 0 => rwf be 0
  | i + 1 => cut (cutn be ch tr i) (ch i).toNatClampNeg (nI 1 <<< (tr i &&& 31))
theorem cutn_s {be ch tr : Nat → Int32} {i x v : Nat} (hx : x < 2 ^ 31) (h1 : ch i = nI x) (h2 : tr i = nI v) : cutn be ch tr (i + 1) = cut (cutn be ch tr i) x (nI 1 <<< (nI v &&& 31)) := by
  show cut _ (ch i).toNatClampNeg (nI 1 <<< (tr i &&& 31)) = _
  rw [h1, h2, nI_clamp hx]
theorem cutn_c {be ch tr ch2 tr2 : Nat → Int32} : ∀ n, (∀ i, i < n → ch2 i = ch i ∧ tr2 i = tr i) → cutn be ch2 tr2 n = cutn be ch tr n := by
  intro n
  induction n with
  | zero => exact fun _ => rfl
  | succ k ih =>
    intro h
    show cut (cutn be ch2 tr2 k) (ch2 k).toNatClampNeg (nI 1 <<< (tr2 k &&& 31)) = cut (cutn be ch tr k) (ch k).toNatClampNeg (nI 1 <<< (tr k &&& 31))
    rw [ih (fun i hi => h i (by omega)), (h k (by omega)).1, (h k (by omega)).2]
theorem DOk.cut {cnt x : Nat} {D : Nat → Int32} {m : Int32} (h : DOk cnt D) : DOk cnt (cut D x m) := by
  refine ⟨fun y hy => ?_, fun y hy => ?_⟩
  · show lo16 (upd D x (D x &&& m) y)
    by_cases e : y = x
    · rw [e, pk_us]; exact lo_and (h.lo x)
    · rw [pk_un e]; exact h.1 y hy
  · show upd D x (D x &&& m) y = 0
    by_cases e : y = x
    · rw [e, pk_us, h.2 x (by omega)]
      exact b_ext (fun i _ => by rw [b_and, b_0]; rfl)
    · rw [pk_un e]; exact h.2 y hy
theorem DOk.cutn {cnt : Nat} {be ch tr : Nat → Int32} (h : DOk cnt (rwf be 0)) : ∀ n, DOk cnt (cutn be ch tr n) := by
  intro n
  induction n with
  | zero => exact h
  | succ k ih => exact ih.cut
theorem cpy_rw0 {be E : Nat → Int32} (h : ∀ x, 8 ≤ x → E x = 0) : va_cpy be E 0 0 8 = rwf be 0 := cpy_rwf (p := 0) h
theorem clo_cut2 {cnt : Nat} {B : Bk} {D0 E F : Nat → Int32} {x : Nat} {m : Int32} (hE : IsClo cnt B D0 E) (hF : IsClo cnt B (cut D0 x m) F) : IsClo cnt B (cut E x m) F :=
  ⟨⟨le_cut (hE.1.2.2 F hF.2.1 (hF.1.1.tr cut_le)) hF.1.1, hF.1.2.1, fun G hG hl => hF.1.2.2 G hG (hl.tr (cut_mono hE.1.1))⟩, hF.2⟩
theorem no_cut2 {cnt : Nat} {B : Bk} {D0 E : Nat → Int32} {x : Nat} {m : Int32} (hE : IsClo cnt B D0 E) (hF : NoClo cnt B (cut D0 x m)) : NoClo cnt B (cut E x m) :=
  fun G hG hl => hF G hG (hl.tr (cut_mono hE.1.1))
theorem clo_dec {cnt : Nat} {B : Bk} {D E F : Nat → Int32} {r : Int32} (h : IsClo cnt B D E) (g : (r = 1 ∧ IsClo cnt B D F) ∨ (r = 0 ∧ NoClo cnt B D ∧ DOk cnt F)) : r = 1 ∧ F = E := by
  rcases g with ⟨g1, g2⟩ | ⟨_, g2, _⟩
  · exact ⟨g1, clo_uniq g2 h⟩
  · exact absurd g2 (fun q => clo_no h q)
