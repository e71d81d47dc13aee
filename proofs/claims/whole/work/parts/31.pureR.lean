def hsR (cnt : Nat) (c : Int32) (R : Nat → Int32) (w : Nat) : Prop := ∃ x, x < cnt ∧ c = nI x ∧ bt (R x) w = true
theorem tv_ex {t : Int32} (h0 : -1 ≤ t.toInt) (h : t.toInt < 16) : ∃ tv : Nat, tv ≤ 16 ∧ t + nI 1 = nI tv ∧ (tv : Int) = t.toInt + 1 := by
  have h1 : (nI 1).toInt = 1 := by decide
  have e : (t + nI 1).toInt = t.toInt + 1 := by rw [t_add (by omega), h1]
  obtain ⟨n, hn, hx⟩ := nI_ex (k := 17) (v := t + nI 1) (by omega) (by omega) (by decide)
  refine ⟨n, by omega, hx, ?_⟩
  rw [← e, hx, nI_toInt (by omega)]
/-- how the reference's search stands to the class's -/
def MRl (cnt : Nat) (B : Bk) (p : Nat) (dr br un be ch tr : Nat → Int32) : Prop :=
  (∀ x, x < 8 → be x = dr x) ∧ (∀ d, d < p → IsClo cnt B (cutn be ch tr d) (rwf dr (d + 1))) ∧
  (∀ d, d < p → -1 ≤ (tr d).toInt ∧ (tr d).toInt < 16 ∧ ((ch d = -1 ∧ un d = 0) ∨ ∃ x, x < cnt ∧ ch d = nI x ∧ br d = nI x ∧ ∀ v, v < 16 → (bt (un d) v = true ↔ bt (rwf dr (d + 1) x) v = true ∧ (tr d).toInt < v))) ∧
  (∀ d, d + 1 < p → ∃ x v, x < cnt ∧ v < 16 ∧ ch d = nI x ∧ tr d = nI v)
theorem mrl_be {be dr : Nat → Int32} (h : ∀ x, x < 8 → be x = dr x) : rwf be 0 = rwf dr 0 := by
  funext x
  by_cases hx : x < 8
  · rw [rwf_in hx, rwf_in hx, Nat.mul_zero, Nat.zero_add]; exact h x hx
  · rw [rwf_out (by omega), rwf_out (by omega)]
theorem mrl_push {cnt p : Nat} {B : Bk} {dr br un be ch tr br2 un2 E : Nat → Int32} {c2 : Int32} (h : MRl cnt B p dr br un be ch tr) (h4 : ∀ d, d < p → ∃ x v, x < cnt ∧ v < 16 ∧ ch d = nI x ∧ tr d = nI v)
    (hE : IsClo cnt B (cutn be ch tr p) E) (hz : ∀ y, 8 ≤ y → E y = 0)
    (hx : (c2 = -1 ∧ un2 = upd un p (nI 0) ∧ br2 = br) ∨ ∃ x, x < cnt ∧ c2 = nI x ∧ un2 = upd un p (E x) ∧ br2 = upd br p (nI x)) :
    MRl cnt B (p + 1) (va_cpy E dr 0 ((p + 1) * 8) 8) br2 un2 be (upd ch p c2) (upd tr p (-1)) := by
  obtain ⟨h1, h2, h3, _⟩ := h
  have hrw : ∀ k, rwf (va_cpy E dr 0 ((p + 1) * 8) 8) k = if k = p + 1 then E else rwf dr k := fun k => cpy_row hz
  have hc : ∀ d, d ≤ p → cutn be (upd ch p c2) (upd tr p (-1)) d = cutn be ch tr d := fun d hd => cutn_c d (fun i hi => ⟨pk_un (by omega), pk_un (by omega)⟩)
  refine ⟨fun x hx8 => ?_, fun d hd => ?_, fun d hd => ?_, fun d hd => ?_⟩
  · rw [pk_cpy_out (by omega)]; exact h1 x hx8
  · rw [hc d (by omega), hrw]
    by_cases e : d = p
    · rw [if_pos (by omega), e]; exact hE
    · rw [if_neg (by omega)]; exact h2 d (by omega)
  · rw [hrw]
    by_cases e : d = p
    · subst e
      rw [pk_us, pk_us, nI_neg1, if_pos rfl]
      refine ⟨by omega, by omega, ?_⟩
      rcases hx with ⟨e1, rfl, rfl⟩ | ⟨x, hxc, e1, rfl, rfl⟩
      · exact Or.inl ⟨e1, pk_us⟩
      · refine Or.inr ⟨x, hxc, e1, pk_us, fun v hv => ?_⟩
        rw [pk_us]
        exact ⟨fun q => ⟨q, by omega⟩, fun q => q.1⟩
    · rw [pk_un e, pk_un e, if_neg (by omega)]
      obtain ⟨g1, g2, g3⟩ := h3 d (by omega)
      refine ⟨g1, g2, ?_⟩
      rcases hx with ⟨e1, rfl, rfl⟩ | ⟨x, hxc, e1, rfl, rfl⟩
      · rw [pk_un e]; exact g3
      · rw [pk_un e, pk_un e]; exact g3
  · obtain ⟨x, v, g1, g2, g3, g4⟩ := h4 d (by omega)
    exact ⟨x, v, g1, g2, by rw [pk_un (by omega)]; exact g3, by rw [pk_un (by omega)]; exact g4⟩
/-- the step down to the next value that is to be tried -/
theorem mrl_next {cnt p d x v : Nat} {B : Bk} {dr br un be ch tr : Nat → Int32} (h : MRl cnt B p dr br un be ch tr) (hdp : d < p) (hxc : x < cnt) (hv : v < 16) (hcx : ch d = nI x) (hc8 : cnt ≤ 8)
    (hlo : lo16 (un d)) (ht : (tr d).toInt < v) (hb : bt (rwf dr (d + 1) x) v = true) (hno : ∀ w : Nat, (tr d).toInt < w → w < v → ¬ hsR cnt (ch d) (rwf dr (d + 1)) w) :
    un d ≠ 0 ∧ br d = nI x ∧ lbt (un d) = nI 1 <<< (nI v &&& 31) ∧ MRl cnt B (d + 1) dr br (upd un d (un d ^^^ lbt (un d))) be ch (upd tr d (nI v)) ∧ ∀ e, e < d + 1 → ∃ x v1, x < cnt ∧ v1 < 16 ∧ ch e = nI x ∧ upd tr d (nI v) e = nI v1 := by
  obtain ⟨h1, h2, h3, h4⟩ := h
  obtain ⟨t0, t16, h3d⟩ := h3 d hdp
  obtain ⟨hbr, hbu⟩ : br d = nI x ∧ ∀ v, v < 16 → (bt (un d) v = true ↔ bt (rwf dr (d + 1) x) v = true ∧ (tr d).toInt < v) := by
    rcases h3d with ⟨e, _⟩ | ⟨x', hx', e, g1, g2⟩
    · exact absurd (hcx.symm.trans e) (nI_nm1 (by omega))
    · have exx : x' = x := (nI_eq (by omega) (by omega)).mp (e.symm.trans hcx)
      subst exx
      exact ⟨g1, g2⟩
  have hbv : bt (un d) v = true := (hbu v hv).mpr ⟨hb, ht⟩
  have hun : un d ≠ 0 := (lo_ne hlo).mpr ⟨v, hv, hbv⟩
  obtain ⟨w, hw, hwb, hwl, ew⟩ := lbt_ok hlo hun
  have ewv : w = v := by
    rcases (by omega : w < v ∨ w = v ∨ v < w) with q | q | q
    · have := (hbu w hw).mp hwb
      exact absurd ⟨x, hxc, hcx, this.1⟩ (hno w this.2 q)
    · exact q
    · rw [hwl v q] at hbv; exact absurd hbv (by decide)
  subst ewv
  have htv : (nI w).toInt = w := nI_toInt (by omega)
  refine ⟨hun, hbr, ew, ⟨h1, fun e he => ?_, fun e he => ?_, fun e he => ?_⟩, fun e he => ?_⟩
  · rw [cutn_c e (ch := ch) (tr := tr) (fun i hi => ⟨rfl, pk_un (by omega)⟩)]; exact h2 e (by omega)
  · by_cases q : e = d
    · subst q
      rw [pk_us, htv]
      refine ⟨by omega, by omega, Or.inr ⟨x, hxc, hcx, hbr, fun u hu => ?_⟩⟩
      rw [pk_us, b_xor, ew, b_one hw]
      have g := hbu u hu
      by_cases euw : u = w
      · rw [euw, decide_eq_true rfl, hwb]
        exact ⟨fun z => absurd z (by decide), fun z => by omega⟩
      · rw [decide_eq_false euw, Bool.xor_false, g]
        constructor
        · rintro ⟨a1, a2⟩
          refine ⟨a1, ?_⟩
          rcases (by omega : u < w ∨ w < u) with q | q
          · exact absurd ⟨x, hxc, hcx, a1⟩ (hno u a2 q)
          · omega
        · rintro ⟨a1, a2⟩
          exact ⟨a1, by omega⟩
    · rw [pk_un q, pk_un q]; exact h3 e (by omega)
  · obtain ⟨x1, v1, g1, g2, g3, g4⟩ := h4 e (by omega)
    exact ⟨x1, v1, g1, g2, g3, by rw [pk_un (by omega)]; exact g4⟩
  · by_cases q : e = d
    · subst q; exact ⟨x, w, hxc, hw, hcx, pk_us⟩
    · obtain ⟨x1, v1, g1, g2, g3, g4⟩ := h4 e (by omega)
      exact ⟨x1, v1, g1, g2, g3, by rw [pk_un q]; exact g4⟩
theorem mrl_none {cnt p d : Nat} {B : Bk} {dr br un be ch tr : Nat → Int32} (h : MRl cnt B p dr br un be ch tr) (hdp : d < p) (hlo : lo16 (un d)) (hno : ∀ w : Nat, (tr d).toInt < w → w < 16 → ¬ hsR cnt (ch d) (rwf dr (d + 1)) w) : un d = 0 := by
  obtain ⟨_, _, h3d⟩ := h.2.2.1 d hdp
  rcases h3d with ⟨_, e⟩ | ⟨x, hx, e, g1, g2⟩
  · exact e
  · refine lo_ext hlo lo_0 (fun v hv => ?_)
    rw [b_0]
    cases eb : bt (un d) v with
    | false => rfl
    | true =>
      have := (g2 v hv).mp eb
      exact absurd ⟨x, hx, e, this.1⟩ (hno v this.2 hv)
