theorem cpy_ext {f g : Nat → Int32} {sp dp n : Nat} : upd (va_cpy f g sp dp n) (dp + n) (f (sp + n)) = va_cpy f g sp dp (n + 1) := by
  funext j
  by_cases e : j = dp + n
  · rw [e, pk_us, pk_cpy_in (by omega) (by omega)]; congr 1; omega
  · rw [pk_un e]
    by_cases h : dp ≤ j ∧ j < dp + n
    · rw [pk_cpy_in h.1 h.2, pk_cpy_in h.1 (by omega)]
    · rw [pk_cpy_out (by omega), pk_cpy_out (by omega)]
theorem cpy_00 {f g : Nat → Int32} {sp dp : Nat} : va_cpy f g sp dp 0 = g := by
  funext j
  rw [pk_cpy_out (by omega)]
theorem may_self {B : Bk} {D : Nat → Int32} {k t w v : Nat} : mayB B D k t w t v ↔ v = w := ⟨fun h => h.1 rfl, fun h => ⟨fun _ => h, fun q => absurd rfl q⟩⟩
theorem may_neg {B : Bk} {D : Nat → Int32} {k t w q v : Nat} (hq : q ≠ t) (h : (B.mb (3 * k + q)).toInt < 0) : mayB B D k t w q v ↔ v = 0 := ⟨fun m => (m.2 hq).1 h, fun m => ⟨fun z => absurd z hq, fun _ => ⟨fun _ => m, fun z => absurd h z⟩⟩⟩
theorem may_pos {B : Bk} {D : Nat → Int32} {k t w q v : Nat} (hq : q ≠ t) (h : ¬ (B.mb (3 * k + q)).toInt < 0) : mayB B D k t w q v ↔ bt (D (B.vx k q)) v = true := ⟨fun m => (m.2 hq).2 h, fun m => ⟨fun z => absurd z hq, fun _ => ⟨fun z => absurd z h, fun _ => m⟩⟩⟩
/-- partial counts of the ways -/
noncomputable def wy3 (B : Bk) (D : Nat → Int32) (k t w i j l : Nat) : Nat := i1 (mayB B D k t w 0 i ∧ mayB B D k t w 1 j ∧ mayB B D k t w 2 l ∧ met B k i j l)
theorem ways_wy (B : Bk) (D : Nat → Int32) (k t w : Nat) : ways B D k t w = sm 16 (fun i => sm 16 (fun j => sm 16 (fun l => wy3 B D k t w i j l))) := rfl
theorem mn_yes {a s : Nat} (h : min s a < s) : min s a + 1 = min s (a + 1) := by omega
theorem mn_add {s a : Nat} {P : Prop} {n : Nat} (e : i1 P = n) : min s (a + i1 P) = min s (a + n) := by rw [e]
theorem many_st {d : Int32} {v : Nat} (hv : v < 16) : nI (sm v (fun v => if bt d v then 1 else 0)) + ((d >>> (nI v &&& 31)) &&& nI 1) = nI (sm (v + 1) (fun v => if bt d v then 1 else 0)) := by
  rw [bit1 d (by omega), nI_add]; rfl
theorem rem_eq {d : Int32} {v : Nat} (hv : v < 16) (hb : bt d v = true) : d &&& ((nI 1 <<< (nI v &&& 31)) ^^^ (-1)) = d ^^^ (nI 1 <<< (nI v &&& 31)) := by
  refine b_ext (fun i hi => ?_)
  rw [b_and, b_xor, b_xor, b_one hv, b_m1 i hi]
  by_cases e : i = v
  · rw [e, decide_eq_true rfl, hb]; rfl
  · rw [decide_eq_false e]; cases bt d i <;> rfl
theorem rem_no {d : Int32} {v : Nat} (hv : v < 16) (hb : bt d v = false) : d &&& ((nI 1 <<< (nI v &&& 31)) ^^^ (-1)) = d := by
  refine b_ext (fun i hi => ?_)
  rw [b_and, b_xor, b_one hv, b_m1 i hi]
  by_cases e : i = v
  · rw [e, hb]; rfl
  · rw [decide_eq_false e]; cases bt d i <;> rfl
theorem rem_ne {d : Int32} {v : Nat} (hv : v < 16) (hb : bt d v = true) : d ^^^ (nI 1 <<< (nI v &&& 31)) ≠ d := by
  intro e
  have := congrArg (fun x => bt x v) e
  simp only [b_xor, b_one hv, hb] at this
  revert this; simp
theorem rem_0 {d : Int32} {v : Nat} (hd : lo16 d) (hv : v < 16) (hb : bt d v = true) : d ^^^ (nI 1 <<< (nI v &&& 31)) = 0 ↔ ¬ 1 < pcn d := by
  have h1 : pcn (nI 1 <<< (nI v &&& 31)) = 1 := pcn_one hv
  constructor
  · intro e
    have e2 : d = nI 1 <<< (nI v &&& 31) := by
      refine b_ext (fun i hi => ?_)
      have := congrArg (fun x => bt x i) e
      simp only [b_xor, b_0] at this
      revert this
      cases bt d i <;> cases bt (nI 1 <<< (nI v &&& 31)) i <;> simp
    rw [e2, h1]; omega
  · intro h
    have hle : ∀ w, bt (nI 1 <<< (nI v &&& 31)) w = true → bt d w = true := fun w hw => by
      rw [b_one hv, decide_eq_true_iff] at hw
      rw [hw]; exact hb
    have e2 : nI 1 <<< (nI v &&& 31) = d := Classical.byContradiction fun q => by
      have := pcn_lt (lo_one hv) hd hle q
      omega
    rw [e2]
    exact b_ext (fun i _ => by rw [b_xor, b_0]; cases bt d i <;> rfl)
theorem em_ex {cnt : Nat} {D : Nat → Int32} {x : Nat} (h : ¬ (∃ y, y < x ∧ D y = 0)) : (∃ y, y < x + 1 ∧ D y = 0) ↔ D x = 0 := by
  constructor
  · rintro ⟨y, hy, e⟩
    by_cases q : y = x
    · rw [← q]; exact e
    · exact absurd ⟨y, by omega, e⟩ h
  · exact fun e => ⟨x, by omega, e⟩
theorem Run.stb {cnt : Nat} {B : Bk} {D : Nat → Int32} {k q : Nat} (hB : BOk cnt B) (h : Pl B k q ↔ q < 3 ∧ k < B.1 ∧ ¬ (B.mb (3 * k + q)).toInt < 0) : True := trivial
