def bt (x : Int32) (i : Nat) : Bool := x.toBitVec.getLsbD i
theorem b_ext {x y : Int32} (h : ∀ i, i < 32 → bt x i = bt y i) : x = y := Int32.toBitVec_inj.mp (BitVec.eq_of_getLsbD_eq (fun i hi => h i hi))
theorem b_or (x y : Int32) (i : Nat) : bt (x ||| y) i = (bt x i || bt y i) := by unfold bt; rw [Int32.toBitVec_or, BitVec.getLsbD_or]
theorem b_and (x y : Int32) (i : Nat) : bt (x &&& y) i = (bt x i && bt y i) := by unfold bt; rw [Int32.toBitVec_and, BitVec.getLsbD_and]
theorem b_xor (x y : Int32) (i : Nat) : bt (x ^^^ y) i = (bt x i ^^ bt y i) := by unfold bt; rw [Int32.toBitVec_xor, BitVec.getLsbD_xor]
theorem b_big {x : Int32} {i : Nat} (h : 32 ≤ i) : bt x i = false := BitVec.getLsbD_of_ge _ _ h
theorem b_255 (i : Nat) : bt 255 i = decide (i < 8) := by
  rcases Nat.lt_or_ge i 32 with h | h
  · exact (by decide +kernel : ∀ i, i < 32 → bt 255 i = decide (i < 8)) i h
  · rw [b_big h, decide_eq_false (by omega)]
theorem b_65535 (i : Nat) : bt 65535 i = decide (i < 16) := by
  rcases Nat.lt_or_ge i 32 with h | h
  · exact (by decide +kernel : ∀ i, i < 32 → bt 65535 i = decide (i < 16)) i h
  · rw [b_big h, decide_eq_false (by omega)]
theorem b_m1 : ∀ i, i < 32 → bt (-1) i = true := by decide +kernel
theorem b_0 (i : Nat) : bt 0 i = false := BitVec.getLsbD_zero
theorem s_l : ∀ n, n < 32 → ((nI n &&& 31).toBitVec.smod 32).toNat = n := by decide +kernel
theorem s_u : ∀ n, n < 32 → (((nI n).toUInt32 &&& Int32.toUInt32 31).toBitVec % 32).toNat = n := by decide +kernel
theorem b_shl (n : Nat) (hn : n < 32) (x : Int32) {i : Nat} (hi : i < 32) : bt (x <<< (nI n &&& 31)) i = (decide (n ≤ i) && bt x (i - n)) := by
  unfold bt
  rw [Int32.toBitVec_shiftLeft]
  show (x.toBitVec <<< ((nI n &&& 31).toBitVec.smod 32).toNat).getLsbD i = _
  rw [s_l n hn, BitVec.getLsbD_shiftLeft]
  rcases Nat.lt_or_ge i n with h | h
  · simp [h, Nat.not_le.mpr h]
  · simp [hi, h, Nat.not_lt.mpr h]
theorem b_ushr (n : Nat) (hn : n < 32) (x : Int32) (i : Nat) : bt ((x.toUInt32 >>> ((nI n).toUInt32 &&& Int32.toUInt32 31)).toInt32) i = bt x (n + i) := by
  show (x.toUInt32 >>> ((nI n).toUInt32 &&& Int32.toUInt32 31)).toBitVec.getLsbD i = x.toUInt32.toBitVec.getLsbD (n + i)
  rw [UInt32.toBitVec_shiftRight]
  show (x.toUInt32.toBitVec >>> (((nI n).toUInt32 &&& Int32.toUInt32 31).toBitVec % 32).toNat).getLsbD i = _
  rw [s_u n hn, BitVec.getLsbD_ushiftRight]
theorem b_sshr (n : Nat) (hn : n < 32) (x : Int32) {i : Nat} (hi : i < 32) : bt (x >>> (nI n &&& 31)) i = if n + i < 32 then bt x (n + i) else bt x 31 := by
  unfold bt
  rw [Int32.toBitVec_shiftRight]
  show (x.toBitVec.sshiftRight ((nI n &&& 31).toBitVec.smod 32).toNat).getLsbD i = _
  rw [s_l n hn, BitVec.getLsbD_sshiftRight, BitVec.msb_eq_getLsbD_last]
  simp [hi]
/-! Pure part: bit sets, sums, rules, closed families. -/
def sm : Nat → (Nat → Nat) → Nat
  | 0, _ => 0
  | k + 1, f => sm k f + f k
theorem sm_zero (n : Nat) : sm n (fun _ => 0) = 0 := by
  induction n with
  | zero => rfl
  | succ k ih => show sm k _ + 0 = 0; rw [ih]
theorem sm_add (n : Nat) (f g : Nat → Nat) : sm n (fun a => f a + g a) = sm n f + sm n g := by
  induction n with
  | zero => rfl
  | succ k ih => show sm k _ + (f k + g k) = (sm k f + f k) + (sm k g + g k); rw [ih]; omega
theorem sm_congr {n : Nat} {f g : Nat → Nat} (h : ∀ a, a < n → f a = g a) : sm n f = sm n g := by
  induction n with
  | zero => rfl
  | succ k ih => show sm k f + f k = sm k g + g k; rw [ih (fun a ha => h a (by omega)), h k (by omega)]
theorem sm_swap (n m : Nat) (f : Nat → Nat → Nat) : sm n (fun a => sm m (fun b => f a b)) = sm m (fun b => sm n (fun a => f a b)) := by
  induction n with
  | zero => exact (sm_zero m).symm
  | succ k ih =>
    show sm k _ + sm m (fun b => f k b) = _
    rw [ih, ← sm_add]
    rfl
theorem sm_pos {n : Nat} {f : Nat → Nat} : 0 < sm n f ↔ ∃ a, a < n ∧ 0 < f a := by
  induction n with
  | zero => exact ⟨fun h => absurd h (Nat.lt_irrefl 0), fun ⟨a, h, _⟩ => absurd h (Nat.not_lt_zero a)⟩
  | succ k ih =>
    constructor
    · intro h
      have h : 0 < sm k f + f k := h
      by_cases h0 : 0 < f k
      · exact ⟨k, Nat.lt_succ_self k, h0⟩
      · obtain ⟨a, ha, hf⟩ := ih.mp (by omega)
        exact ⟨a, by omega, hf⟩
    · rintro ⟨a, ha, hf⟩
      show 0 < sm k f + f k
      by_cases e : a = k
      · subst e; omega
      · have := ih.mpr ⟨a, by omega, hf⟩
        omega
theorem sm_le {n : Nat} {f : Nat → Nat} {b : Nat} (h : ∀ a, a < n → f a ≤ b) : sm n f ≤ n * b := by
  induction n with
  | zero => exact Nat.zero_le _
  | succ k ih =>
    show sm k f + f k ≤ (k + 1) * b
    have h1 := ih (fun a ha => h a (by omega))
    have h2 := h k (by omega)
    rw [Nat.succ_mul]; omega
theorem sm_mono {n : Nat} {f g : Nat → Nat} (h : ∀ a, a < n → f a ≤ g a) : sm n f ≤ sm n g := by
  induction n with
  | zero => exact Nat.le_refl _
  | succ k ih =>
    show sm k f + f k ≤ sm k g + g k
    have h1 := ih (fun a ha => h a (by omega))
    have h2 := h k (by omega)
    omega
theorem sm_lt {n : Nat} {f g : Nat → Nat} (h : ∀ a, a < n → f a ≤ g a) {x : Nat} (hx : x < n) (hl : f x < g x) : sm n f < sm n g := by
  induction n with
  | zero => exact absurd hx (Nat.not_lt_zero x)
  | succ k ih =>
    show sm k f + f k < sm k g + g k
    have h2 := h k (by omega)
    by_cases e : x = k
    · subst e
      have h1 := sm_mono (fun a ha => h a (show a < x + 1 by omega)) (n := x)
      omega
    · have h1 := ih (fun a ha => h a (by omega)) (by omega)
      omega
noncomputable def i1 (P : Prop) : Nat := @ite Nat P (Classical.propDecidable P) 1 0
theorem i1_t {P : Prop} (h : P) : i1 P = 1 := by unfold i1; rw [if_pos h]
theorem i1_f {P : Prop} (h : ¬ P) : i1 P = 0 := by unfold i1; rw [if_neg h]
theorem i1_le (P : Prop) : i1 P ≤ 1 := by
  by_cases h : P
  · rw [i1_t h]
    exact Nat.le_refl _
  · rw [i1_f h]; exact Nat.zero_le _
theorem i1_pos {P : Prop} : 0 < i1 P ↔ P := by
  by_cases h : P
  · rw [i1_t h]; exact ⟨fun _ => h, fun _ => Nat.one_pos⟩
  · rw [i1_f h]; exact ⟨fun q => absurd q (Nat.lt_irrefl 0), fun q => absurd q h⟩
theorem i1_c {P P' : Prop} (h : P ↔ P') : i1 P = i1 P' := by rw [propext h]
/-- at most one place counts -/
theorem sm_one {n : Nat} {f : Nat → Nat} {x : Nat} (hx : x < n) (h : ∀ a, a < n → a ≠ x → f a = 0) : sm n f = f x := by
  induction n with
  | zero => exact absurd hx (Nat.not_lt_zero x)
  | succ k ih =>
    show sm k f + f k = f x
    by_cases e : x = k
    · subst e
      have : sm x f = sm x (fun _ => 0) := sm_congr (fun a ha => h a (by omega) (by omega))
      rw [this, sm_zero, Nat.zero_add]
    · rw [ih (by omega) (fun a ha hne => h a (by omega) hne), h k (by omega) (fun q => e q.symm), Nat.add_zero]
theorem sm_none {n : Nat} {f : Nat → Nat} (h : ∀ a, a < n → f a = 0) : sm n f = 0 := by
  rw [sm_congr (g := fun _ => 0) h, sm_zero]
/-- number of values in a domain -/
def pcn (x : Int32) : Nat := sm 16 (fun v => if bt x v then 1 else 0)
/-- bits 16 and on are not set -/
def lo16 (x : Int32) : Prop := ∀ i, 16 ≤ i → bt x i = false
theorem lo_ext {x y : Int32} (hx : lo16 x) (hy : lo16 y) (h : ∀ v, v < 16 → bt x v = bt y v) : x = y := by
  refine b_ext (fun i hi => ?_)
  by_cases hv : i < 16
  · exact h i hv
  · rw [hx i (by omega), hy i (by omega)]
theorem lo_0 : lo16 0 := fun i _ => b_0 i
theorem lo_ne {x : Int32} (hx : lo16 x) : x ≠ 0 ↔ ∃ v, v < 16 ∧ bt x v = true := by
  constructor
  · intro h
    refine Classical.byContradiction fun q => h (lo_ext hx lo_0 (fun v hv => ?_))
    rw [b_0]
    cases e : bt x v with
    | false => rfl
    | true => exact absurd ⟨v, hv, e⟩ q
  · rintro ⟨v, _, e⟩ h
    rw [h, b_0] at e
    exact absurd e (by decide)
/-- the rules: how many, kinds, members, numbers, sizes of the lists, entries -/
abbrev Bk : Type := Nat × (Nat → Int32) × (Nat → Int32) × (Nat → Int32) × (Nat → Int32) × (Nat → Int32)
abbrev Bk.kd (B : Bk) : Nat → Int32 := B.2.1
abbrev Bk.mb (B : Bk) : Nat → Int32 := B.2.2.1
abbrev Bk.nu (B : Bk) : Nat → Int32 := B.2.2.2.1
abbrev Bk.sz (B : Bk) : Nat → Int32 := B.2.2.2.2.1
abbrev Bk.en (B : Bk) : Nat → Int32 := B.2.2.2.2.2
abbrev Bk.vx (B : Bk) (k q : Nat) : Nat := (B.mb (3 * k + q)).toNatClampNeg
abbrev Bk.ls (B : Bk) (r : Nat) : Nat := (B.sz r).toNatClampNeg
def mat (c : Int32) (v : Nat) : Prop := c = -1 ∨ c = nI v
/-- some entry of list r matches -/
def lmet (B : Bk) (r i j l : Nat) : Prop := ∃ e, e < B.ls r ∧ mat (B.en (36 * r + 3 * e)) i ∧ mat (B.en (36 * r + 3 * e + 1)) j ∧ mat (B.en (36 * r + 3 * e + 2)) l
/-- rule k is met by i, j, l -/
def met (B : Bk) (k i j l : Nat) : Prop :=
  (B.kd k = 0 → (i : Int) ≠ j + (B.nu k).toInt) ∧ (B.kd k = 1 → (j : Int) + (B.nu k).toInt ≤ i) ∧ (B.kd k = 2 → (i : Int) + j + l = (B.nu k).toInt) ∧ (B.kd k = 3 → lmet B (B.nu k).toNatClampNeg i j l)
/-- what may stand at place q of rule k, w being taken at place t -/
def mayB (B : Bk) (D : Nat → Int32) (k t w q v : Nat) : Prop :=
  (q = t → v = w) ∧ (q ≠ t → ((B.mb (3 * k + q)).toInt < 0 → v = 0) ∧ (¬ (B.mb (3 * k + q)).toInt < 0 → bt (D (B.vx k q)) v = true))
noncomputable def ways (B : Bk) (D : Nat → Int32) (k t w : Nat) : Nat :=
  sm 16 (fun i => sm 16 (fun j => sm 16 (fun l => i1 (mayB B D k t w 0 i ∧ mayB B D k t w 1 j ∧ mayB B D k t w 2 l ∧ met B k i j l))))
def supp (B : Bk) (D : Nat → Int32) (k t w : Nat) : Prop :=
  ∃ i j l, i < 16 ∧ j < 16 ∧ l < 16 ∧ mayB B D k t w 0 i ∧ mayB B D k t w 1 j ∧ mayB B D k t w 2 l ∧ met B k i j l
theorem ways_pos {B : Bk} {D : Nat → Int32} {k t w : Nat} : 0 < ways B D k t w ↔ supp B D k t w := by
  unfold ways supp
  constructor
  · intro h
    obtain ⟨i, hi, h⟩ := sm_pos.mp h
    obtain ⟨j, hj, h⟩ := sm_pos.mp h
    obtain ⟨l, hl, h⟩ := sm_pos.mp h
    exact ⟨i, j, l, hi, hj, hl, i1_pos.mp h⟩
  · rintro ⟨i, j, l, hi, hj, hl, h⟩
    exact sm_pos.mpr ⟨i, hi, sm_pos.mpr ⟨j, hj, sm_pos.mpr ⟨l, hl, i1_pos.mpr h⟩⟩⟩
/-- rule k of the book is as the calls make them -/
def RuleOk (cnt : Nat) (B : Bk) (k : Nat) : Prop :=
  ∃ x y z : Nat, x < cnt ∧ y < cnt ∧ x ≠ y ∧ B.mb (3 * k) = nI x ∧ B.mb (3 * k + 1) = nI y ∧
    ((B.kd k = 0 ∧ B.mb (3 * k + 2) = -1 ∧ -15 ≤ (B.nu k).toInt ∧ (B.nu k).toInt ≤ 15) ∨ (B.kd k = 1 ∧ B.mb (3 * k + 2) = -1 ∧ -15 ≤ (B.nu k).toInt ∧ (B.nu k).toInt ≤ 15) ∨
     (B.kd k = 2 ∧ z < cnt ∧ x ≠ z ∧ y ≠ z ∧ B.mb (3 * k + 2) = nI z ∧ 0 ≤ (B.nu k).toInt ∧ (B.nu k).toInt ≤ 45) ∨
     (B.kd k = 3 ∧ z < cnt ∧ x ≠ z ∧ y ≠ z ∧ B.mb (3 * k + 2) = nI z ∧ ∃ r, r < 4 ∧ B.nu k = nI r))
def BOk (cnt : Nat) (B : Bk) : Prop :=
  cnt ≤ 8 ∧ B.1 ≤ 16 ∧ (∀ k, k < B.1 → RuleOk cnt B k) ∧ (∀ r, r < 4 → ∃ s, s ≤ 12 ∧ B.sz r = nI s) ∧
    ∀ r e q, r < 4 → e < B.ls r → q < 3 → B.en (36 * r + 3 * e + q) = -1 ∨ ∃ v, v < 16 ∧ B.en (36 * r + 3 * e + q) = nI v
/-- a place of a rule that has a variable -/
def Pl (B : Bk) (k q : Nat) : Prop := k < B.1 ∧ q < 3 ∧ ¬ (B.mb (3 * k + q)).toInt < 0
theorem nI_neg1 : ((-1 : Int32)).toInt = -1 := by decide
theorem Pl.vx {cnt : Nat} {B : Bk} {k q : Nat} (hB : BOk cnt B) (h : Pl B k q) : B.vx k q < cnt ∧ B.mb (3 * k + q) = nI (B.vx k q) := by
  obtain ⟨hk, hq, hn⟩ := h
  obtain ⟨x, y, z, hx, hy, hxy, e0, e1, h2⟩ := hB.2.2.1 k hk
  have hc := hB.1
  have key : ∀ a : Nat, a < cnt → B.mb (3 * k + q) = nI a → B.vx k q < cnt ∧ B.mb (3 * k + q) = nI (B.vx k q) := by
    intro a ha e
    have e' : B.vx k q = a := by show (B.mb (3 * k + q)).toNatClampNeg = a; rw [e, nI_clamp (by omega)]
    rw [e']; exact ⟨ha, e⟩
  rcases (by omega : q = 0 ∨ q = 1 ∨ q = 2) with rfl | rfl | rfl
  · exact key x hx e0
  · exact key y hy e1
  · rcases h2 with ⟨_, e, _⟩ | ⟨_, e, _⟩ | ⟨_, hz, _, _, e, _⟩ | ⟨_, hz, _, _, e, _⟩
    · exact absurd (by rw [e, nI_neg1]; omega) hn
    · exact absurd (by rw [e, nI_neg1]; omega) hn
    · exact key z hz e
    · exact key z hz e
def Le (cnt : Nat) (D E : Nat → Int32) : Prop := ∀ x v, x < cnt → bt (D x) v = true → bt (E x) v = true
theorem Le.rf {cnt : Nat} {D : Nat → Int32} : Le cnt D D := fun _ _ _ h => h
theorem Le.tr {cnt : Nat} {D E F : Nat → Int32} (h : Le cnt D E) (g : Le cnt E F) : Le cnt D F := fun x v hx hb => g x v hx (h x v hx hb)
theorem may_mono {cnt : Nat} {B : Bk} {D E : Nat → Int32} (hB : BOk cnt B) (h : Le cnt D E) {k t w q v : Nat} (hk : k < B.1) (hq : q < 3) (hm : mayB B D k t w q v) : mayB B E k t w q v :=
  ⟨hm.1, fun hne => ⟨(hm.2 hne).1, fun hn => h _ v (Pl.vx hB ⟨hk, hq, hn⟩).1 ((hm.2 hne).2 hn)⟩⟩
theorem supp_mono {cnt : Nat} {B : Bk} {D E : Nat → Int32} (hB : BOk cnt B) (h : Le cnt D E) {k t w : Nat} (hk : k < B.1) (hs : supp B D k t w) : supp B E k t w := by
  obtain ⟨i, j, l, hi, hj, hl, a, b, c, d⟩ := hs
  exact ⟨i, j, l, hi, hj, hl, may_mono hB h hk (by omega) a, may_mono hB h hk (by omega) b, may_mono hB h hk (by omega) c, d⟩
/-- every value of the variable at this place has support -/
def Stb (B : Bk) (D : Nat → Int32) (k q : Nat) : Prop := ∀ v, v < 16 → bt (D (B.vx k q)) v = true → supp B D k q v
def Cls (B : Bk) (D : Nat → Int32) : Prop := ∀ k q, Pl B k q → Stb B D k q
/-- domains as they are between calls -/
def DOk (cnt : Nat) (D : Nat → Int32) : Prop := (∀ x, x < cnt → lo16 (D x)) ∧ ∀ x, cnt ≤ x → D x = 0
def NEm (cnt : Nat) (D : Nat → Int32) : Prop := ∀ x, x < cnt → D x ≠ 0
/-- S is what a filter of place q of rule k leaves -/
def Flt (B : Bk) (D : Nat → Int32) (k q : Nat) (S : Int32) : Prop := lo16 S ∧ ∀ v, v < 16 → (bt S v = true ↔ bt (D (B.vx k q)) v = true ∧ supp B D k q v)
/-- how far a run of filters from D0 may have come -/
def Run (cnt : Nat) (B : Bk) (D0 D : Nat → Int32) : Prop := Le cnt D D0 ∧ DOk cnt D ∧ ∀ G, Cls B G → Le cnt G D0 → Le cnt G D
def IsClo (cnt : Nat) (B : Bk) (D0 E : Nat → Int32) : Prop := Run cnt B D0 E ∧ Cls B E ∧ NEm cnt E
def NoClo (cnt : Nat) (B : Bk) (D0 : Nat → Int32) : Prop := ∀ G, Cls B G → Le cnt G D0 → ∃ x, x < cnt ∧ G x = 0
theorem Run.rf {cnt : Nat} {B : Bk} {D : Nat → Int32} (h : DOk cnt D) : Run cnt B D D := ⟨Le.rf, h, fun _ _ h => h⟩
theorem Flt.le {B : Bk} {D : Nat → Int32} {k q : Nat} {S : Int32} (h : Flt B D k q S) {v : Nat} (hb : bt S v = true) : bt (D (B.vx k q)) v = true := by
  by_cases hv : v < 16
  · exact ((h.2 v hv).mp hb).1
  · rw [h.1 v (by omega)] at hb; exact absurd hb (by decide)
theorem Run.step {cnt : Nat} {B : Bk} {D0 D : Nat → Int32} (hB : BOk cnt B) (hR : Run cnt B D0 D) {k q : Nat} (hp : Pl B k q) {S : Int32} (hF : Flt B D k q S) : Run cnt B D0 (upd D (B.vx k q) S) := by
  have hx := (Pl.vx hB hp).1
  have hle : Le cnt (upd D (B.vx k q) S) D := by
    intro x v _ hb
    by_cases e : x = B.vx k q
    · rw [e, pk_us] at hb
      rw [e]; exact hF.le hb
    · rw [pk_un e] at hb; exact hb
  refine ⟨hle.tr hR.1, ⟨fun x hx' => ?_, fun x hx' => ?_⟩, fun G hG hl => ?_⟩
  · by_cases e : x = B.vx k q
    · rw [e, pk_us]; exact hF.1
    · rw [pk_un e]; exact hR.2.1.1 x hx'
  · rw [pk_un (by omega)]; exact hR.2.1.2 x hx'
  · have hg := hR.2.2 G hG hl
    intro x v hx' hb
    by_cases e : x = B.vx k q
    · rw [e, pk_us]
      rw [e] at hb
      have hd : bt (D (B.vx k q)) v = true := hg _ v hx hb
      by_cases hv : v < 16
      · exact (hF.2 v hv).mpr ⟨hd, supp_mono hB hg hp.1 (hG k q hp v hv hb)⟩
      · rw [hR.2.1.1 _ hx v (by omega)] at hd; exact absurd hd (by decide)
    · rw [pk_un e]; exact hg x v hx' hb
theorem Run.out {cnt : Nat} {B : Bk} {D0 D : Nat → Int32} (hR : Run cnt B D0 D) {x : Nat} (hx : x < cnt) (h0 : D x = 0) : NoClo cnt B D0 := by
  intro G hG hl
  have hg := hR.2.2 G hG hl
  refine ⟨x, hx, b_ext (fun i _ => ?_)⟩
  rw [b_0]
  cases e : bt (G x) i with
  | false => rfl
  | true =>
    have := hg x i hx e
    rw [h0, b_0] at this
    exact absurd this (by decide)
theorem Flt.stb {B : Bk} {D : Nat → Int32} {k q : Nat} {S : Int32} (h : Flt B D k q S) (e : S = D (B.vx k q)) : Stb B D k q := fun v hv hb => ((h.2 v hv).mp (by rw [e]; exact hb)).2
theorem clo_no {cnt : Nat} {B : Bk} {D0 E : Nat → Int32} (h : IsClo cnt B D0 E) (g : NoClo cnt B D0) : False := by
  obtain ⟨x, hx, e⟩ := g E h.2.1 h.1.1
  exact h.2.2 x hx e
theorem D_ext {cnt : Nat} {D E : Nat → Int32} (hD : DOk cnt D) (hE : DOk cnt E) (h : Le cnt D E) (g : Le cnt E D) : D = E := by
  funext x
  by_cases hx : x < cnt
  · refine b_ext (fun i _ => ?_)
    cases a : bt (D x) i with
    | true => exact (h x i hx a).symm
    | false =>
      cases b : bt (E x) i with
      | false => rfl
      | true => rw [g x i hx b] at a; exact absurd a (by decide)
  · rw [hD.2 x (by omega), hE.2 x (by omega)]
theorem clo_uniq {cnt : Nat} {B : Bk} {D0 E F : Nat → Int32} (h : IsClo cnt B D0 E) (g : IsClo cnt B D0 F) : E = F :=
  D_ext h.1.2.1 g.1.2.1 (g.1.2.2 E h.2.1 h.1.1) (h.1.2.2 F g.2.1 g.1.1)
/-- one variable is cut to a set -/
def cut (D : Nat → Int32) (x : Nat) (m : Int32) : Nat → Int32 := upd D x (D x &&& m)
theorem cut_le {cnt : Nat} {D : Nat → Int32} {x : Nat} {m : Int32} : Le cnt (cut D x m) D := by
  intro y v _ hb
  unfold cut at hb
  by_cases e : y = x
  · rw [e, pk_us, b_and, Bool.and_eq_true] at hb
    rw [e]; exact hb.1
  · rw [pk_un e] at hb; exact hb
theorem cut_mono {cnt : Nat} {D E : Nat → Int32} {x : Nat} {m : Int32} (h : Le cnt D E) : Le cnt (cut D x m) (cut E x m) := by
  intro y v hy hb
  unfold cut at hb ⊢
  by_cases e : y = x
  · rw [e, pk_us, b_and, Bool.and_eq_true] at hb ⊢
    exact ⟨h x v (by omega) hb.1, hb.2⟩
  · rw [pk_un e] at hb ⊢; exact h y v hy hb
theorem le_cut {cnt : Nat} {G D E : Nat → Int32} {x : Nat} {m : Int32} (h : Le cnt G E) (g : Le cnt G (cut D x m)) : Le cnt G (cut E x m) := by
  intro y v hy hb
  have h1 := h y v hy hb
  have h2 := g y v hy hb
  unfold cut at h2 ⊢
  by_cases e : y = x
  · rw [e, pk_us, b_and, Bool.and_eq_true] at h2
    rw [e, pk_us, b_and, Bool.and_eq_true]
    rw [e] at h1
    exact ⟨h1, h2.2⟩
  · rw [pk_un e]; exact h1
/-- closing once more after a cut is closing the cut start -/
theorem clo_cut {cnt : Nat} {B : Bk} {D0 E F : Nat → Int32} {x : Nat} {m : Int32} (hE : IsClo cnt B D0 E) (hF : IsClo cnt B (cut E x m) F) : IsClo cnt B (cut D0 x m) F :=
  ⟨⟨hF.1.1.tr (cut_mono hE.1.1), hF.1.2.1, fun G hG hl => hF.1.2.2 G hG (le_cut (hE.1.2.2 G hG (hl.tr cut_le)) hl)⟩, hF.2⟩
theorem no_cut {cnt : Nat} {B : Bk} {D0 E : Nat → Int32} {x : Nat} {m : Int32} (hE : IsClo cnt B D0 E) (hF : NoClo cnt B (cut E x m)) : NoClo cnt B (cut D0 x m) :=
  fun G hG hl => hF G hG (le_cut (hE.1.2.2 G hG (hl.tr cut_le)) hl)
/-- all values together -/
def tot (D : Nat → Int32) : Nat := sm 8 (fun x => pcn (D x))
theorem pcn_le (x : Int32) : pcn x ≤ 16 := by
  have h := sm_le (n := 16) (f := fun v => if bt x v then 1 else 0) (b := 1) (fun a _ => by show (if bt x a then 1 else 0) ≤ 1; split <;> omega)
  unfold pcn
  omega
theorem pcn_mono {x y : Int32} (h : ∀ v, bt x v = true → bt y v = true) : pcn x ≤ pcn y := by
  refine sm_mono (fun v _ => ?_)
  show (if bt x v then 1 else 0) ≤ if bt y v then 1 else 0
  cases e : bt x v with
  | false => simp
  | true => rw [h v e]; exact Nat.le_refl _
theorem pcn_lt {x y : Int32} (hx : lo16 x) (hy : lo16 y) (h : ∀ v, bt x v = true → bt y v = true) (hne : x ≠ y) : pcn x < pcn y := by
  obtain ⟨v, hv, h1, h2⟩ : ∃ v, v < 16 ∧ bt x v = false ∧ bt y v = true := by
    refine Classical.byContradiction fun q => hne (lo_ext hx hy (fun v hv => ?_))
    cases a : bt x v with
    | true => exact (h v a).symm
    | false =>
      cases b : bt y v with
      | false => rfl
      | true => exact absurd ⟨v, hv, a, b⟩ q
  refine sm_lt (fun v _ => ?_) hv ?_
  · show (if bt x v then 1 else 0) ≤ if bt y v then 1 else 0
    cases e : bt x v with
    | false => simp
    | true => rw [h v e]; exact Nat.le_refl _
  · show (if bt x v then 1 else 0) < if bt y v then 1 else 0
    rw [h1, h2]; decide
theorem tot_le (D : Nat → Int32) : tot D ≤ 128 := sm_le (n := 8) (b := 16) (fun x _ => pcn_le (D x))
theorem tot_step {cnt : Nat} {B : Bk} {D : Nat → Int32} (hB : BOk cnt B) (hD : DOk cnt D) {k q : Nat} (hp : Pl B k q) {S : Int32} (hF : Flt B D k q S) (hne : S ≠ D (B.vx k q)) : tot (upd D (B.vx k q) S) < tot D := by
  have hx := (Pl.vx hB hp).1
  have hc := hB.1
  refine sm_lt (x := B.vx k q) (fun y _ => ?_) (by omega) ?_
  · show pcn (upd D (B.vx k q) S y) ≤ pcn (D y)
    by_cases e : y = B.vx k q
    · rw [e, pk_us]; exact pcn_mono (fun v hb => hF.le hb)
    · rw [pk_un e]; exact Nat.le_refl _
  · show pcn (upd D (B.vx k q) S (B.vx k q)) < pcn (D (B.vx k q))
    rw [pk_us]
    exact pcn_lt hF.1 (hD.1 _ hx) (fun v hb => hF.le hb) hne
theorem upd_self (D : Nat → Int32) (x : Nat) : upd D x (D x) = D := by
  funext y
  by_cases e : y = x
  · rw [e, pk_us]
  · rw [pk_un e]
/-! Pure part 2: single bits, ranges, counts of bits, ways by kind. -/
theorem nI_ex {v : Int32} {k : Nat} (h0 : 0 ≤ v.toInt) (h : v.toInt < k) (hk : k ≤ 2 ^ 31) : ∃ n : Nat, n < k ∧ v = nI n := by
  refine ⟨v.toInt.toNat, by omega, ?_⟩
  rw [← Int32.toInt_inj, nI_toInt (by omega)]
  omega
theorem t_add {x y : Int32} (h : -2147483648 ≤ x.toInt + y.toInt ∧ x.toInt + y.toInt < 2147483648) : (x + y).toInt = x.toInt + y.toInt := by
  rw [Int32.toInt_add]
  exact Int.bmod_eq_of_le (by omega) (by omega)
theorem t_sub {x y : Int32} (h : -2147483648 ≤ x.toInt - y.toInt ∧ x.toInt - y.toInt < 2147483648) : (x - y).toInt = x.toInt - y.toInt := by
  rw [Int32.toInt_sub]
  exact Int.bmod_eq_of_le (by omega) (by omega)
theorem b_1 : ∀ i, i < 32 → bt (nI 1) i = decide (i = 0) := by decide +kernel
theorem bit1 (d : Int32) {n : Nat} (hn : n < 32) : (d >>> (nI n &&& 31)) &&& nI 1 = nI (if bt d n then 1 else 0) := by
  refine b_ext (fun i hi => ?_)
  rw [b_and, b_sshr n hn d hi, b_1 i hi]
  by_cases e : i = 0
  · subst e
    rw [if_pos (by omega : n + 0 < 32), Nat.add_zero]
    cases bt d n
    · rfl
    · rfl
  · rw [decide_eq_false e, Bool.and_false]
    cases bt d n
    · exact (b_0 i).symm
    · show false = bt (nI 1) i
      rw [b_1 i hi, decide_eq_false e]
def hasP (d v : Int32) : Prop := ∃ n : Nat, n < 16 ∧ v = nI n ∧ bt d n = true
theorem hasP_n {d : Int32} {v : Nat} (hv : v < 16) : hasP d (nI v) ↔ bt d v = true := by
  constructor
  · rintro ⟨n, hn, e, h⟩
    rw [(nI_eq (by omega) (by omega)).mp e]; exact h
  · intro h; exact ⟨v, hv, rfl, h⟩
theorem b_sh1 : ∀ n, n < 16 → ∀ i, i < 32 → bt ((nI 1) <<< (nI n &&& 31)) i = decide (i = n) := by decide +kernel
theorem b_one {n : Nat} (hn : n < 16) (i : Nat) : bt ((nI 1) <<< (nI n &&& 31)) i = decide (i = n) := by
  by_cases hi : i < 32
  · exact b_sh1 n hn i hi
  · rw [b_big (by omega), decide_eq_false (by omega)]
theorem lo_one {n : Nat} (hn : n < 16) : lo16 ((nI 1) <<< (nI n &&& 31)) := fun i hi => by rw [b_one hn, decide_eq_false (by omega)]
theorem lo_and {x y : Int32} (h : lo16 x) : lo16 (x &&& y) := fun i hi => by rw [b_and, h i hi, Bool.false_and]
theorem lo_andr {x y : Int32} (h : lo16 y) : lo16 (x &&& y) := fun i hi => by rw [b_and, h i hi, Bool.and_false]
theorem lo_or {x y : Int32} (h : lo16 x) (g : lo16 y) : lo16 (x ||| y) := fun i hi => by rw [b_or, h i hi, g i hi]; rfl
theorem lo_xor {x y : Int32} (h : lo16 x) (g : lo16 y) : lo16 (x ^^^ y) := fun i hi => by rw [b_xor, h i hi, g i hi]; rfl
theorem b_FF (i : Nat) : bt (nI 65535) i = decide (i < 16) := b_65535 i
theorem lo_FF : lo16 (nI 65535) := fun i hi => by rw [b_FF, decide_eq_false (by omega)]
theorem b_low : ∀ n, n < 17 → ∀ i, i < 32 → bt ((nI 1 <<< (nI n &&& 31)) - nI 1) i = decide (i < n) := by decide +kernel
theorem b_lown {n : Nat} (hn : n < 17) (i : Nat) : bt ((nI 1 <<< (nI n &&& 31)) - nI 1) i = decide (i < n) := by
  by_cases hi : i < 32
  · exact b_low n hn i hi
  · rw [b_big (by omega), decide_eq_false (by omega)]
theorem lo_of {x : Int32} (h0 : 0 ≤ x.toInt) (h : x.toInt < 65536) : lo16 x := by
  obtain ⟨n, hn, rfl⟩ := nI_ex (k := 65536) h0 h (by omega)
  intro i hi
  unfold bt
  show (BitVec.ofNat 32 n).getLsbD i = false
  rw [BitVec.getLsbD_ofNat]
  have : n.testBit i = false := Nat.testBit_lt_two_pow (Nat.lt_of_lt_of_le hn (Nat.pow_le_pow_right (n := 2) (by omega) hi))
  rw [this, Bool.and_false]
theorem lo_n {x : Int32} (h : lo16 x) : ∃ n : Nat, n < 65536 ∧ x = nI n := by
  have e : x = nI x.toBitVec.toNat := by
    apply Int32.toBitVec_inj.1
    show x.toBitVec = BitVec.ofNat 32 x.toBitVec.toNat
    simp
  refine ⟨x.toBitVec.toNat, ?_, e⟩
  refine Nat.lt_pow_two_of_testBit (n := 16) _ (fun i hi => ?_)
  exact h i hi
/-- ways at a place, by the two other places -/
def cmet (B : Bk) (k q v a b : Nat) : Prop := (q = 0 → met B k v a b) ∧ (q = 1 → met B k b v a) ∧ (q = 2 → met B k a b v)
theorem ways3 {cnt : Nat} {B : Bk} {D : Nat → Int32} {k q v : Nat} (hB : BOk cnt B) (hk : k < B.1) (hq : q < 3) (hv : v < 16) (h3 : ¬ (B.mb (3 * k + 2)).toInt < 0) :
    ways B D k q v = sm 16 (fun a => sm 16 (fun b => i1 (bt (D (B.vx k ((q + 1) % 3))) a = true ∧ bt (D (B.vx k ((q + 2) % 3))) b = true ∧ cmet B k q v a b))) := by
  obtain ⟨x, y, z, hx, hy, hxy, e0, e1, h2⟩ := hB.2.2.1 k hk
  have hc := hB.1
  have n0 : ¬ (B.mb (3 * k + 0)).toInt < 0 := by rw [show 3 * k + 0 = 3 * k from rfl, e0, nI_toInt (by omega)]; omega
  have n1 : ¬ (B.mb (3 * k + 1)).toInt < 0 := by rw [e1, nI_toInt (by omega)]; omega
  unfold ways
  rcases (by omega : q = 0 ∨ q = 1 ∨ q = 2) with rfl | rfl | rfl
  · rw [sm_one (x := v) hv]
    · refine sm_congr (fun j _ => sm_congr (fun l _ => i1_c ?_))
      constructor
      · rintro ⟨_, m1, m2, h⟩
        exact ⟨(m1.2 (by omega)).2 n1, (m2.2 (by omega)).2 h3, fun _ => h, fun q => by omega, fun q => by omega⟩
      · rintro ⟨b1, b2, h, _⟩
        exact ⟨⟨fun _ => rfl, fun q => absurd rfl q⟩, ⟨fun q => by omega, fun _ => ⟨fun q => absurd q n1, fun _ => b1⟩⟩, ⟨fun q => by omega, fun _ => ⟨fun q => absurd q h3, fun _ => b2⟩⟩, h rfl⟩
    · intro i _ hne
      exact sm_none (fun j _ => sm_none (fun l _ => i1_f (fun h => hne (h.1.1 rfl))))
  · have e : ∀ i, sm 16 (fun j => sm 16 (fun l => i1 (mayB B D k 1 v 0 i ∧ mayB B D k 1 v 1 j ∧ mayB B D k 1 v 2 l ∧ met B k i j l))) = sm 16 (fun l => i1 (bt (D (B.vx k 2)) l = true ∧ bt (D (B.vx k 0)) i = true ∧ cmet B k 1 v l i)) := by
      intro i
      rw [sm_one (x := v) hv]
      · refine sm_congr (fun l _ => i1_c ?_)
        constructor
        · rintro ⟨m0, _, m2, h⟩
          exact ⟨(m2.2 (by omega)).2 h3, (m0.2 (by omega)).2 n0, fun q => by omega, fun _ => h, fun q => by omega⟩
        · rintro ⟨b1, b2, _, h, _⟩
          exact ⟨⟨fun q => by omega, fun _ => ⟨fun q => absurd q n0, fun _ => b2⟩⟩, ⟨fun _ => rfl, fun q => absurd rfl q⟩, ⟨fun q => by omega, fun _ => ⟨fun q => absurd q h3, fun _ => b1⟩⟩, h rfl⟩
      · intro j _ hne
        exact sm_none (fun l _ => i1_f (fun h => hne (h.2.1.1 rfl)))
    rw [sm_congr (fun i _ => e i), sm_swap]
  · refine sm_congr (fun i _ => sm_congr (fun j _ => ?_))
    rw [sm_one (x := v) hv]
    · refine i1_c ?_
      constructor
      · rintro ⟨m0, m1, _, h⟩
        exact ⟨(m0.2 (by omega)).2 n0, (m1.2 (by omega)).2 n1, fun q => by omega, fun q => by omega, fun _ => h⟩
      · rintro ⟨b1, b2, _, _, h⟩
        exact ⟨⟨fun q => by omega, fun _ => ⟨fun q => absurd q n0, fun _ => b1⟩⟩, ⟨fun q => by omega, fun _ => ⟨fun q => absurd q n1, fun _ => b2⟩⟩, ⟨fun _ => rfl, fun q => absurd rfl q⟩, h rfl⟩
    · intro l _ hne
      exact i1_f (fun h => hne (h.2.2.1.1 rfl))
theorem ways2 {cnt : Nat} {B : Bk} {D : Nat → Int32} {k q v : Nat} (hB : BOk cnt B) (hk : k < B.1) (hq : q < 2) (hv : v < 16) (h3 : (B.mb (3 * k + 2)).toInt < 0) :
    ways B D k q v = sm 16 (fun a => i1 (bt (D (B.vx k ((q + 1) % 2))) a = true ∧ ((q = 0 → met B k v a 0) ∧ (q = 1 → met B k a v 0)))) := by
  obtain ⟨x, y, z, hx, hy, hxy, e0, e1, h2⟩ := hB.2.2.1 k hk
  have hc := hB.1
  have n0 : ¬ (B.mb (3 * k + 0)).toInt < 0 := by rw [show 3 * k + 0 = 3 * k from rfl, e0, nI_toInt (by omega)]; omega
  have n1 : ¬ (B.mb (3 * k + 1)).toInt < 0 := by rw [e1, nI_toInt (by omega)]; omega
  unfold ways
  rcases (by omega : q = 0 ∨ q = 1) with rfl | rfl
  · rw [sm_one (x := v) hv]
    · refine sm_congr (fun j _ => ?_)
      rw [sm_one (x := 0) (by omega)]
      · refine i1_c ?_
        constructor
        · rintro ⟨_, m1, _, h⟩
          exact ⟨(m1.2 (by omega)).2 n1, fun _ => h, fun q => by omega⟩
        · rintro ⟨b1, h, _⟩
          exact ⟨⟨fun _ => rfl, fun q => absurd rfl q⟩, ⟨fun q => by omega, fun _ => ⟨fun q => absurd q n1, fun _ => b1⟩⟩, ⟨fun q => by omega, fun _ => ⟨fun _ => rfl, fun q => absurd h3 q⟩⟩, h rfl⟩
      · intro l _ hne
        exact i1_f (fun h => hne ((h.2.2.1.2 (by omega)).1 h3))
    · intro i _ hne
      exact sm_none (fun j _ => sm_none (fun l _ => i1_f (fun h => hne (h.1.1 rfl))))
  · refine sm_congr (fun i _ => ?_)
    rw [sm_one (x := v) hv]
    · rw [sm_one (x := 0) (by omega)]
      · refine i1_c ?_
        constructor
        · rintro ⟨m0, _, _, h⟩
          exact ⟨(m0.2 (by omega)).2 n0, fun q => by omega, fun _ => h⟩
        · rintro ⟨b1, _, h⟩
          exact ⟨⟨fun q => by omega, fun _ => ⟨fun q => absurd q n0, fun _ => b1⟩⟩, ⟨fun _ => rfl, fun q => absurd rfl q⟩, ⟨fun q => by omega, fun _ => ⟨fun _ => rfl, fun q => absurd h3 q⟩⟩, h rfl⟩
      · intro l _ hne
        exact i1_f (fun h => hne ((h.2.2.1.2 (by omega)).1 h3))
    · intro j _ hne
      exact sm_none (fun l _ => i1_f (fun h => hne (h.2.1.1 rfl)))
theorem pcn_i1 {x : Int32} {P : Nat → Prop} (h : ∀ v, v < 16 → (bt x v = true ↔ P v)) : pcn x = sm 16 (fun v => i1 (P v)) := by
  refine sm_congr (fun v hv => ?_)
  show (if bt x v then 1 else 0) = i1 (P v)
  by_cases hp : P v
  · rw [i1_t hp, (h v hv).mpr hp]; rfl
  · rw [i1_f hp]
    cases e : bt x v with
    | false => rfl
    | true => exact absurd ((h v hv).mp e) hp
/-! Pure part 3: the branch variable, the tree of the search. -/
noncomputable def cloO (cnt : Nat) (B : Bk) (D : Nat → Int32) : Option (Nat → Int32) :=
  @dite (Option (Nat → Int32)) (∃ E, IsClo cnt B D E) (Classical.propDecidable _) (fun h => some (Classical.choose h)) (fun _ => none)
theorem cloO_some {cnt : Nat} {B : Bk} {D E : Nat → Int32} (h : IsClo cnt B D E) : cloO cnt B D = some E := by
  have hx : ∃ E, IsClo cnt B D E := ⟨E, h⟩
  unfold cloO
  rw [dif_pos hx]
  exact congrArg some (clo_uniq (Classical.choose_spec hx) h)
theorem cloO_none {cnt : Nat} {B : Bk} {D : Nat → Int32} (h : NoClo cnt B D) : cloO cnt B D = none := by
  unfold cloO
  rw [dif_neg]
  rintro ⟨E, hE⟩
  exact clo_no hE h
def opR (B : Bk) (D : Nat → Int32) (k x : Nat) : Prop := (∃ q, Pl B k q ∧ B.vx k q = x) ∧ ∃ q, Pl B k q ∧ B.vx k q ≠ x ∧ 1 < pcn (D (B.vx k q))
noncomputable def cor (B : Bk) (D : Nat → Int32) (x : Nat) : Nat := sm B.1 (fun k => i1 (opR B D k x))
noncomputable def bst (B : Bk) (D : Nat → Int32) : Nat → Int32 × Nat × Nat
  | 0 => (-1, 0, 0)
  | x + 1 => @ite (Int32 × Nat × Nat) (1 < pcn (D x) ∧ ((bst B D x).1 = -1 ∨ pcn (D x) * (bst B D x).2.2 < (bst B D x).2.1 * (1 + cor B D x))) (Classical.propDecidable _) (nI x, pcn (D x), 1 + cor B D x) (bst B D x)
theorem bst_t {B : Bk} {D : Nat → Int32} {x : Nat} (h : 1 < pcn (D x) ∧ ((bst B D x).1 = -1 ∨ pcn (D x) * (bst B D x).2.2 < (bst B D x).2.1 * (1 + cor B D x))) : bst B D (x + 1) = (nI x, pcn (D x), 1 + cor B D x) := if_pos h
theorem bst_f {B : Bk} {D : Nat → Int32} {x : Nat} (h : ¬ (1 < pcn (D x) ∧ ((bst B D x).1 = -1 ∨ pcn (D x) * (bst B D x).2.2 < (bst B D x).2.1 * (1 + cor B D x)))) : bst B D (x + 1) = bst B D x := if_neg h
theorem nI_nm1 {x : Nat} (h : x < 2 ^ 31) : nI x ≠ -1 := by
  intro e
  have := congrArg Int32.toInt e
  rw [nI_toInt h, nI_neg1] at this
  omega
theorem cor_le {cnt : Nat} {B : Bk} {D : Nat → Int32} {x : Nat} (hB : BOk cnt B) : cor B D x ≤ 16 := by
  have h := sm_le (n := B.1) (f := fun k => i1 (opR B D k x)) (b := 1) (fun a _ => i1_le _)
  have := hB.2.1
  unfold cor
  omega
theorem bst_in {cnt : Nat} {B : Bk} {D : Nat → Int32} (hB : BOk cnt B) : ∀ n, n ≤ 8 → (bst B D n).2.1 ≤ 16 ∧ (bst B D n).2.2 ≤ 17 ∧ (((bst B D n).1 = -1 ∧ ∀ x, x < n → ¬ 1 < pcn (D x)) ∨ ∃ x, x < n ∧ (bst B D n).1 = nI x ∧ 1 < pcn (D x)) := by
  intro n
  induction n with
  | zero => exact fun _ => ⟨Nat.zero_le _, Nat.zero_le _, Or.inl ⟨rfl, fun x h => absurd h (Nat.not_lt_zero x)⟩⟩
  | succ x ih =>
    intro hn
    obtain ⟨h1, h2, h3⟩ := ih (by omega)
    by_cases h : 1 < pcn (D x) ∧ ((bst B D x).1 = -1 ∨ pcn (D x) * (bst B D x).2.2 < (bst B D x).2.1 * (1 + cor B D x))
    · rw [bst_t h]
      have := cor_le (D := D) (x := x) hB
      exact ⟨pcn_le _, by show 1 + cor B D x ≤ 17; omega, Or.inr ⟨x, by omega, rfl, h.1⟩⟩
    · rw [bst_f h]
      refine ⟨h1, h2, ?_⟩
      rcases h3 with ⟨e, h3⟩ | ⟨y, hy, e, h3⟩
      · refine Or.inl ⟨e, fun y hy => ?_⟩
        by_cases q : y = x
        · subst q
          exact fun q => h ⟨q, Or.inl e⟩
        · exact h3 y (by omega)
      · exact Or.inr ⟨y, by omega, e, h3⟩
theorem pcn_0 : pcn 0 = 0 := sm_none (fun v _ => by show (if bt 0 v then 1 else 0) = 0; rw [b_0]; rfl)
/-- beyond the variables nothing is open -/
theorem bst_cnt {cnt : Nat} {B : Bk} {D : Nat → Int32} (hD : DOk cnt D) : ∀ n, cnt ≤ n → bst B D n = bst B D cnt := by
  intro n
  induction n with
  | zero => intro h; rw [Nat.le_zero.mp h]
  | succ x ih =>
    intro h
    by_cases e : cnt = x + 1
    · rw [e]
    · rw [bst_f, ih (by omega)]
      rw [hD.2 x (by omega), pcn_0]
      intro q
      omega
/-- row p of the rows of domains -/
def rwf (dr : Nat → Int32) (p : Nat) : Nat → Int32 := fun x => if x < 8 then dr (8 * p + x) else 0
def topN (un : Nat → Int32) : Nat → Nat
  | 0 => 0
  | p + 1 => if un p = 0 then topN un p else p + 1
