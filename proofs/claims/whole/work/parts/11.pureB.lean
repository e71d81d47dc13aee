theorem t_nat {x : Int32} {n : Nat} (h : x.toInt = n) (hn : n < 2 ^ 31) : x = nI n := by
  rw [← Int32.toInt_inj, nI_toInt hn]; exact h
theorem met0 {B : Bk} {k i j l : Nat} (h : B.kd k = 0) : met B k i j l ↔ (i : Int) ≠ j + (B.nu k).toInt := by
  unfold met; rw [h]
  exact ⟨fun q => q.1 rfl, fun q => ⟨fun _ => q, fun z => absurd z (by decide), fun z => absurd z (by decide), fun z => absurd z (by decide)⟩⟩
theorem met1 {B : Bk} {k i j l : Nat} (h : B.kd k = 1) : met B k i j l ↔ (j : Int) + (B.nu k).toInt ≤ i := by
  unfold met; rw [h]
  exact ⟨fun q => q.2.1 rfl, fun q => ⟨fun z => absurd z (by decide), fun _ => q, fun z => absurd z (by decide), fun z => absurd z (by decide)⟩⟩
theorem met2 {B : Bk} {k i j l : Nat} (h : B.kd k = 2) : met B k i j l ↔ (i : Int) + j + l = (B.nu k).toInt := by
  unfold met; rw [h]
  exact ⟨fun q => q.2.2.1 rfl, fun q => ⟨fun z => absurd z (by decide), fun z => absurd z (by decide), fun _ => q, fun z => absurd z (by decide)⟩⟩
theorem met3 {B : Bk} {k i j l : Nat} (h : B.kd k = 3) : met B k i j l ↔ lmet B (B.nu k).toNatClampNeg i j l := by
  unfold met; rw [h]
  exact ⟨fun q => q.2.2.2 rfl, fun q => ⟨fun z => absurd z (by decide), fun z => absurd z (by decide), fun z => absurd z (by decide), fun _ => q⟩⟩
theorem vb_cl (ed : Int32) : ∃ c : Nat, c ≤ 16 ∧ (if nI 0 < (if nI 16 < ed then nI 16 else ed) then (if nI 16 < ed then nI 16 else ed) else nI 0) = nI c ∧ ∀ a : Nat, a < c ↔ a < 16 ∧ (a : Int) < ed.toInt := by
  have i0 : (nI 0).toInt = 0 := by decide
  have i16 : (nI 16).toInt = 16 := by decide
  by_cases h : nI 16 < ed
  · rw [if_pos h, if_pos (by decide)]
    rw [Int32.lt_iff_toInt_lt, i16] at h
    exact ⟨16, by omega, rfl, fun a => by omega⟩
  · rw [if_neg h]
    rw [Int32.lt_iff_toInt_lt, i16] at h
    by_cases g : nI 0 < ed
    · rw [if_pos g]
      rw [Int32.lt_iff_toInt_lt, i0] at g
      obtain ⟨n, hn, e⟩ := nI_ex (k := 17) (v := ed) (by omega) (by omega) (by decide)
      refine ⟨n, by omega, e, fun a => ?_⟩
      rw [e, nI_toInt (by omega)]; omega
    · rw [if_neg g]
      rw [Int32.lt_iff_toInt_lt, i0] at g
      exact ⟨0, by omega, rfl, fun a => by omega⟩
theorem pd_d {b u : Int32} {E : Int} (hb : ∀ a, bt b a = true ↔ (a < 16 ∧ (a : Int) < E)) (hu : ∀ a, bt u a = true ↔ (a < 16 ∧ (a : Int) < E + 1)) : lo16 ((nI 65535 ^^^ u) ^^^ b) ∧ ∀ a : Nat, a < 16 → (bt ((nI 65535 ^^^ u) ^^^ b) a = true ↔ (a : Int) ≠ E) := by
  have lb : lo16 b := fun i hi => by
    cases e : bt b i with
    | false => rfl
    | true => have := (hb i).mp e; omega
  have lu : lo16 u := fun i hi => by
    cases e : bt u i with
    | false => rfl
    | true => have := (hu i).mp e; omega
  refine ⟨lo_xor (lo_xor lo_FF lu) lb, fun a ha => ?_⟩
  rw [b_xor, b_xor, b_FF, decide_eq_true ha]
  have h1 := hb a
  have h2 := hu a
  cases e1 : bt b a <;> cases e2 : bt u a <;> rw [e1] at h1 <;> rw [e2] at h2 <;> simp at h1 h2 ⊢ <;> omega
theorem pd_u {u : Int32} {E : Int} (hu : ∀ a, bt u a = true ↔ (a < 16 ∧ (a : Int) < E + 1)) : lo16 u ∧ ∀ a : Nat, a < 16 → (bt u a = true ↔ (a : Int) ≤ E) := by
  refine ⟨fun i hi => ?_, fun a ha => ?_⟩
  · cases e : bt u i with
    | false => rfl
    | true => have := (hu i).mp e; omega
  · rw [hu a]; omega
theorem pd_b {b : Int32} {E : Int} (hb : ∀ a, bt b a = true ↔ (a < 16 ∧ (a : Int) < E)) : lo16 (nI 65535 ^^^ b) ∧ ∀ a : Nat, a < 16 → (bt (nI 65535 ^^^ b) a = true ↔ E ≤ (a : Int)) := by
  have lb : lo16 b := fun i hi => by
    cases e : bt b i with
    | false => rfl
    | true => have := (hb i).mp e; omega
  refine ⟨lo_xor lo_FF lb, fun a ha => ?_⟩
  rw [b_xor, b_FF, decide_eq_true ha]
  have h1 := hb a
  cases e1 : bt b a <;> rw [e1] at h1 <;> simp at h1 ⊢ <;> omega
/-- the other value of a rule about two variables -/
def pmet (B : Bk) (k t v a : Nat) : Prop := (t = 0 → met B k v a 0) ∧ (t = 1 → met B k a v 0)
theorem kd_2 {cnt : Nat} {B : Bk} {k : Nat} (hB : BOk cnt B) (hk : k < B.1) (hw : wd B k = 2) : (B.kd k = 0 ∨ B.kd k = 1) ∧ -15 ≤ (B.nu k).toInt ∧ (B.nu k).toInt ≤ 15 ∧ (B.mb (3 * k + 2)).toInt < 0 := by
  obtain ⟨x, y, z, hx, hy, hxy, e0, e1, h2⟩ := hB.2.2.1 k hk
  have i2 : (2 : Int32).toInt = 2 := by decide
  have i3 : (3 : Int32).toInt = 3 := by decide
  rcases h2 with ⟨ek, e, h3, h4⟩ | ⟨ek, e, h3, h4⟩ | ⟨ek, _⟩ | ⟨ek, _⟩
  · exact ⟨Or.inl ek, h3, h4, by rw [e, nI_neg1]; omega⟩
  · exact ⟨Or.inr ek, h3, h4, by rw [e, nI_neg1]; omega⟩
  · unfold wd at hw; rw [ek, i2, if_neg (by omega), if_neg (by omega)] at hw; omega
  · unfold wd at hw; rw [ek, i3, if_neg (by omega), if_neg (by omega)] at hw; omega
theorem kd_3 {cnt : Nat} {B : Bk} {k : Nat} (hB : BOk cnt B) (hk : k < B.1) (hw : wd B k ≠ 2) : ¬ (B.mb (3 * k + 2)).toInt < 0 ∧ wd B k = 3 ∧ ((B.kd k = 2 ∧ 0 ≤ (B.nu k).toInt ∧ (B.nu k).toInt ≤ 45) ∨ (B.kd k = 3 ∧ ∃ r, r < 4 ∧ B.nu k = nI r)) := by
  obtain ⟨x, y, z, hx, hy, hxy, e0, e1, h2⟩ := hB.2.2.1 k hk
  have hc := hB.1
  have hw3 := wd_in B k
  have i1 : (1 : Int32).toInt = 1 := by decide
  rcases h2 with ⟨ek, _⟩ | ⟨ek, _⟩ | ⟨ek, hz, _, _, e, h3, h4⟩ | ⟨ek, hz, _, _, e, h3⟩
  · exact absurd (by unfold wd; rw [ek, if_pos (show (0 : Int32).toInt = 0 from rfl)]) hw
  · exact absurd (by unfold wd; rw [ek, i1, if_neg (by omega), if_pos rfl]) hw
  · exact ⟨by rw [e, nI_toInt (by omega)]; omega, by omega, Or.inl ⟨ek, h3, h4⟩⟩
  · exact ⟨by rw [e, nI_toInt (by omega)]; omega, by omega, Or.inr ⟨ek, h3⟩⟩
/-- an entry of list r that has v at place t, a and b at the two behind it -/
def lcm4 (B : Bk) (r t v a b : Nat) : Prop := ∃ e, e < B.ls r ∧ mat (B.en (36 * r + 3 * e + t)) v ∧ mat (B.en (36 * r + 3 * e + (t + 1) % 3)) a ∧ mat (B.en (36 * r + 3 * e + (t + 2) % 3)) b
theorem cmet3 {B : Bk} {k r t v a b : Nat} (h : B.kd k = 3) (hr : B.nu k = nI r) (hr4 : r < 4) (ht : t < 3) : cmet B k t v a b ↔ lcm4 B r t v a b := by
  have e : (B.nu k).toNatClampNeg = r := by rw [hr, nI_clamp (by omega)]
  unfold cmet
  rw [met3 h, met3 h, met3 h, e]
  unfold lmet lcm4
  rcases (by omega : t = 0 ∨ t = 1 ∨ t = 2) with rfl | rfl | rfl
  · constructor
    · rintro ⟨q, _⟩
      obtain ⟨e, he, h0, h1, h2⟩ := q rfl
      exact ⟨e, he, h0, h1, h2⟩
    · rintro ⟨e, he, h0, h1, h2⟩
      exact ⟨fun _ => ⟨e, he, h0, h1, h2⟩, fun q => by omega, fun q => by omega⟩
  · constructor
    · rintro ⟨_, q, _⟩
      obtain ⟨e, he, h0, h1, h2⟩ := q rfl
      exact ⟨e, he, h1, h2, h0⟩
    · rintro ⟨e, he, h0, h1, h2⟩
      exact ⟨fun q => by omega, fun _ => ⟨e, he, h2, h0, h1⟩, fun q => by omega⟩
  · constructor
    · rintro ⟨_, _, q⟩
      obtain ⟨e, he, h0, h1, h2⟩ := q rfl
      exact ⟨e, he, h2, h0, h1⟩
    · rintro ⟨e, he, h0, h1, h2⟩
      exact ⟨fun q => by omega, fun q => by omega, fun _ => ⟨e, he, h1, h2, h0⟩⟩
theorem cmet2 {B : Bk} {k t v a b : Nat} (h : B.kd k = 2) (ht : t < 3) : cmet B k t v a b ↔ (v : Int) + a + b = (B.nu k).toInt := by
  unfold cmet
  rw [met2 h, met2 h, met2 h]
  rcases (by omega : t = 0 ∨ t = 1 ∨ t = 2) with rfl | rfl | rfl
  · exact ⟨fun q => q.1 rfl, fun q => ⟨fun _ => q, fun z => by omega, fun z => by omega⟩⟩
  · exact ⟨fun q => by have := q.2.1 rfl; omega, fun q => ⟨fun z => by omega, fun _ => by omega, fun z => by omega⟩⟩
  · exact ⟨fun q => by have := q.2.2 rfl; omega, fun q => ⟨fun z => by omega, fun z => by omega, fun _ => by omega⟩⟩
theorem ways_T {cnt : Nat} {B : Bk} {D : Nat → Int32} {k t v : Nat} (hB : BOk cnt B) (hk : k < B.1) (ht : t < 3) (hv : v < 16) (h3 : ¬ (B.mb (3 * k + 2)).toInt < 0) (h : B.kd k = 2) (hs0 : 0 ≤ (B.nu k).toInt) (hs : (B.nu k).toInt ≤ 45) :
    ways B D k t v = sm 16 (fun a => i1 (bt (D (B.vx k ((t + 1) % 3))) a = true ∧ hasP (D (B.vx k ((t + 2) % 3))) ((B.nu k - nI v) - nI a))) := by
  rw [ways3 hB hk ht hv h3]
  refine sm_congr (fun a ha => ?_)
  have ev : (nI v).toInt = v := nI_toInt (by omega)
  have ea : (nI a).toInt = a := nI_toInt (by omega)
  have e1 : (B.nu k - nI v).toInt = (B.nu k).toInt - v := by rw [t_sub (by omega), ev]
  have e2 : (B.nu k - nI v - nI a).toInt = (B.nu k).toInt - v - a := by rw [t_sub (by omega), e1, ea]
  by_cases hp : bt (D (B.vx k ((t + 1) % 3))) a = true ∧ hasP (D (B.vx k ((t + 2) % 3))) ((B.nu k - nI v) - nI a)
  · rw [i1_t hp]
    obtain ⟨h1, n, hn, en, hb⟩ := hp
    rw [sm_one (x := n) hn]
    · refine i1_t ⟨h1, hb, (cmet2 h ht).mpr ?_⟩
      rw [en, nI_toInt (by omega)] at e2
      omega
    · intro b hb' hne
      refine i1_f (fun q => hne ?_)
      have := (cmet2 h ht).mp q.2.2
      rw [en, nI_toInt (by omega)] at e2
      omega
  · rw [i1_f hp]
    refine sm_none (fun b hb' => i1_f (fun q => hp ⟨q.1, b, hb', ?_, q.2.1⟩))
    have := (cmet2 h ht).mp q.2.2
    rw [← Int32.toInt_inj, e2, nI_toInt (by omega)]
    omega
noncomputable def lway (B : Bk) (r t v : Nat) (nx la : Int32) : Nat := sm 16 (fun a => sm 16 (fun b => i1 (bt nx a = true ∧ bt la b = true ∧ lcm4 B r t v a b)))
theorem ways_L {cnt : Nat} {B : Bk} {D : Nat → Int32} {k t v r : Nat} (hB : BOk cnt B) (hk : k < B.1) (ht : t < 3) (hv : v < 16) (h3 : ¬ (B.mb (3 * k + 2)).toInt < 0) (h : B.kd k = 3) (hr4 : r < 4) (hr : B.nu k = nI r) :
    ways B D k t v = lway B r t v (D (B.vx k ((t + 1) % 3))) (D (B.vx k ((t + 2) % 3))) := by
  rw [ways3 hB hk ht hv h3]
  unfold lway
  exact sm_congr (fun a _ => sm_congr (fun b _ => i1_c (by rw [cmet3 h hr hr4 ht])))
theorem ways_P {cnt : Nat} {B : Bk} {D : Nat → Int32} {k t v : Nat} {r : Int32} (hB : BOk cnt B) (hk : k < B.1) (ht : t < 2) (hv : v < 16) (h3 : (B.mb (3 * k + 2)).toInt < 0) (hr : ∀ a, a < 16 → (bt r a = true ↔ pmet B k t v a)) :
    pcn (r &&& D (B.vx k ((t + 1) % 2))) = ways B D k t v := by
  rw [ways2 hB hk ht hv h3]
  refine pcn_i1 (fun a ha => ?_)
  rw [b_and, Bool.and_eq_true, hr a ha]
  exact ⟨fun q => ⟨q.2, q.1⟩, fun q => ⟨q.2, q.1⟩⟩
theorem pm_d {B : Bk} {k t v : Nat} {E : Int} {a : Nat} (h : B.kd k = 0) (ht : t < 2) (hE : E = (if t = 0 then (v : Int) - (B.nu k).toInt else (v : Int) + (B.nu k).toInt)) : (a : Int) ≠ E ↔ pmet B k t v a := by
  unfold pmet
  rw [met0 h, met0 h]
  rcases (by omega : t = 0 ∨ t = 1) with rfl | rfl
  · rw [if_pos rfl] at hE
    exact ⟨fun q => ⟨fun _ => by omega, fun z => by omega⟩, fun q => by have := q.1 rfl; omega⟩
  · rw [if_neg (by omega)] at hE
    exact ⟨fun q => ⟨fun z => by omega, fun _ => by omega⟩, fun q => by have := q.2 rfl; omega⟩
theorem pm_u {B : Bk} {k t v : Nat} {E : Int} {a : Nat} (h : B.kd k = 1) (ht : t = 0) (hE : E = (if t = 0 then (v : Int) - (B.nu k).toInt else (v : Int) + (B.nu k).toInt)) : (a : Int) ≤ E ↔ pmet B k t v a := by
  subst ht
  unfold pmet
  rw [met1 h, met1 h]
  rw [if_pos rfl] at hE
  exact ⟨fun q => ⟨fun _ => by omega, fun z => by omega⟩, fun q => by have := q.1 rfl; omega⟩
theorem pm_b {B : Bk} {k t v : Nat} {E : Int} {a : Nat} (h : B.kd k = 1) (ht : t = 1) (hE : E = (if t = 0 then (v : Int) - (B.nu k).toInt else (v : Int) + (B.nu k).toInt)) : E ≤ (a : Int) ↔ pmet B k t v a := by
  subst ht
  unfold pmet
  rw [met1 h, met1 h]
  rw [if_neg (by omega)] at hE
  exact ⟨fun q => ⟨fun z => by omega, fun _ => by omega⟩, fun q => by have := q.2 rfl; omega⟩
