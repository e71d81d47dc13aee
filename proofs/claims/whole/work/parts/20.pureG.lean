theorem b_neg (x : Int32) {i : Nat} (hi : i < 32) : bt (-x) i = (bt x i ^^ decide (∃ j, j < i ∧ bt x j = true)) := by
  unfold bt
  rw [Int32.toBitVec_neg, BitVec.getLsbD_neg, decide_eq_true hi, Bool.true_and]
theorem lbt_ok {x : Int32} (hx : lo16 x) (h : x ≠ 0) : ∃ v, v < 16 ∧ bt x v = true ∧ (∀ w, w < v → bt x w = false) ∧ lbt x = nI 1 <<< (nI v &&& 31) := by
  obtain ⟨v, hv, hl⟩ := pk_least (fun v => bt x v = true) (by obtain ⟨v, _, q⟩ := (lo_ne hx).mp h; exact ⟨v, q⟩)
  have hv16 : v < 16 := by
    refine Classical.byContradiction fun q => ?_
    rw [hx v (by omega)] at hv
    exact absurd hv (by decide)
  have hl' : ∀ w, w < v → bt x w = false := fun w hw => by
    cases e : bt x w with
    | false => rfl
    | true => exact absurd e (hl w hw)
  refine ⟨v, hv16, hv, hl', b_ext (fun i hi => ?_)⟩
  unfold lbt
  rw [b_and, b_neg x hi, b_one hv16]
  rcases (by omega : i < v ∨ i = v ∨ v < i) with q | q | q
  · rw [hl' i q, Bool.false_and, decide_eq_false (by omega)]
  · subst q
    rw [hv, decide_eq_true rfl, decide_eq_false (by rintro ⟨j, hj, e⟩; rw [hl' j hj] at e; exact absurd e (by decide))]
    rfl
  · rw [decide_eq_true ⟨v, q, hv⟩, decide_eq_false (by omega)]
    cases bt x i <;> rfl
/-- how many variables are not fixed -/
def opc (D : Nat → Int32) : Nat := sm 8 (fun x => if 1 < pcn (D x) then 1 else 0)
theorem opc_le (D : Nat → Int32) : opc D ≤ 8 := by
  have h := sm_le (n := 8) (b := 1) (f := fun x => if 1 < pcn (D x) then 1 else 0) (fun x _ => by show (if _ then 1 else 0) ≤ 1; split <;> omega)
  unfold opc; omega
theorem opc_lt {D E : Nat → Int32} (h : ∀ y, y < 8 → pcn (E y) ≤ pcn (D y)) {x : Nat} (hx : x < 8) (h1 : 1 < pcn (D x)) (h2 : ¬ 1 < pcn (E x)) : opc E < opc D := by
  refine sm_lt (x := x) (fun y hy => ?_) hx ?_
  · show (if 1 < pcn (E y) then 1 else 0) ≤ if 1 < pcn (D y) then 1 else 0
    have := h y hy
    split <;> split <;> omega
  · show (if 1 < pcn (E x) then 1 else 0) < if 1 < pcn (D x) then 1 else 0
    rw [if_neg h2, if_pos h1]; omega
theorem pcn_one {v : Nat} (hv : v < 16) : pcn (nI 1 <<< (nI v &&& 31)) = 1 := by
  rw [pcn_i1 (P := fun w => w = v) (fun w _ => by rw [b_one hv, decide_eq_true_iff]), sm_one hv (fun a _ hne => i1_f hne), i1_t rfl]
def TIv (cnt p : Nat) (V : Prop) (dr br un dm : Nat → Int32) : Prop :=
  p ≤ 9 ∧ dm = rwf dr p ∧ (∀ k, k ≤ p → DOk cnt (rwf dr k) ∧ NEm cnt (rwf dr k)) ∧ (¬ V → p = 0) ∧
    ∀ d, d < p → opc (rwf dr (d + 1)) + d ≤ 8 ∧ lo16 (un d) ∧ (un d ≠ 0 → ∃ x, x < cnt ∧ br d = nI x ∧ 1 < pcn (rwf dr (d + 1) x) ∧ ∀ v, bt (un d) v = true → bt (rwf dr (d + 1) x) v = true)
def Mid (cnt p : Nat) (dr br un dm : Nat → Int32) : Prop :=
  p ≤ 9 ∧ (∀ k, k ≤ p → DOk cnt (rwf dr k) ∧ NEm cnt (rwf dr k)) ∧
    (∀ d, d < p → opc (rwf dr (d + 1)) + d ≤ 8 ∧ lo16 (un d) ∧ (un d ≠ 0 → ∃ x, x < cnt ∧ br d = nI x ∧ 1 < pcn (rwf dr (d + 1) x) ∧ ∀ v, bt (un d) v = true → bt (rwf dr (d + 1) x) v = true)) ∧
    DOk cnt dm ∧ NEm cnt dm ∧ ∀ E, Le cnt E dm → DOk cnt E → p ≤ 8 ∧ opc E + p ≤ 8
theorem upd_cut {D : Nat → Int32} {x : Nat} {m : Int32} (h : ∀ v, bt m v = true → bt (D x) v = true) : upd D x m = cut D x m := by
  unfold cut
  congr 1
  refine b_ext (fun i _ => ?_)
  rw [b_and]
  cases e : bt m i with
  | false => rw [Bool.and_false]
  | true => rw [h i e]; rfl
theorem topN_le (un : Nat → Int32) : ∀ p, topN un p ≤ p := by
  intro p
  induction p with
  | zero => exact Nat.le_refl _
  | succ p ih =>
    show (if un p = 0 then topN un p else p + 1) ≤ p + 1
    split <;> omega
theorem prp_bits {u : Int32} (hl : lo16 u) (h0 : u ≠ 0) : ∀ v, bt (lbt u) v = true → bt u v = true := by
  obtain ⟨w, hw, hb, _, e⟩ := lbt_ok hl h0
  intro v hv
  rw [e, b_one hw, decide_eq_true_iff] at hv
  rw [hv]; exact hb
theorem prp_mid {cnt p p1 : Nat} {V : Prop} {dr br un dm un1 dm1 : Nat → Int32} {r : Int32} (hc : cnt ≤ 8) (hT : TIv cnt p V dr br un dm) (hP : Prp p V dr br un dm r p1 un1 dm1) (hr : r ≠ 0) : Mid cnt p1 dr br un1 dm1 := by
  obtain ⟨h9, hdm, hrow, hV, hd⟩ := hT
  rcases hP with ⟨hv, _, rfl, rfl, rfl⟩ | ⟨_, _, e, _⟩ | ⟨hv, d, x, htop, hdp, hx8, hbr, hun, _, rfl, rfl, rfl⟩
  · have hp0 := hV hv
    subst hp0
    rw [hdm]
    exact ⟨by omega, hrow, hd, (hrow 0 (by omega)).1, (hrow 0 (by omega)).2, fun E _ _ => ⟨by omega, opc_le E⟩⟩
  · exact absurd e hr
  · have hz : ∀ y, 8 ≤ y → dm y = 0 := fun y hy => by rw [hdm]; exact rwf_out hy
    rw [cpy_rwf hz]
    obtain ⟨hop, hlo, hx⟩ := hd d hdp
    obtain ⟨x', hxc, hbr', ho, hb⟩ := hx hun
    have exx : x' = x := (nI_eq (by omega) (by omega)).mp (hbr'.symm.trans hbr)
    subst exx
    obtain ⟨w, hw, hwb, _, ew⟩ := lbt_ok hlo hun
    have hrd := hrow (d + 1) (by omega)
    have hsub := prp_bits hlo hun
    have hlb : lo16 (lbt (un d)) := by rw [ew]; exact lo_one hw
    have hne : lbt (un d) ≠ 0 := (lo_ne hlb).mpr ⟨w, hw, by rw [ew, b_one hw, decide_eq_true rfl]⟩
    refine ⟨by omega, fun k hk => hrow k (by omega), fun e he => ?_, ⟨fun y hy => ?_, fun y hy => ?_⟩, fun y hy => ?_, fun E hE hDE => ?_⟩
    · obtain ⟨g1, g2, g3⟩ := hd e (by omega)
      by_cases q : e = d
      · subst q
        rw [pk_us]
        refine ⟨g1, lo_xor g2 hlb, fun _ => ⟨x', hxc, hbr, ho, fun v hv => hb v ?_⟩⟩
        rw [b_xor] at hv
        cases e1 : bt (un e) v with
        | true => rfl
        | false =>
          rw [e1] at hv
          have : bt (lbt (un e)) v = true := by simpa using hv
          rw [hsub v this] at e1; exact absurd e1 (by decide)
      · rw [pk_un q]; exact ⟨g1, g2, g3⟩
    · by_cases q : y = x'
      · rw [q, pk_us]; exact hlb
      · rw [pk_un q]; exact hrd.1.1 y hy
    · rw [pk_un (by omega)]; exact hrd.1.2 y hy
    · by_cases q : y = x'
      · rw [q, pk_us]; exact hne
      · rw [pk_un q]; exact hrd.2 y hy
    · have hlt : opc E < opc (rwf dr (d + 1)) := by
        refine opc_lt (x := x') (fun y hy => ?_) hx8 ho ?_
        · by_cases hyc : y < cnt
          · refine pcn_mono (fun v hv => ?_)
            have h1 := hE y v hyc hv
            by_cases q : y = x'
            · rw [q, pk_us] at h1
              rw [q]; exact hb v (hsub v h1)
            · rw [pk_un q] at h1; exact h1
          · rw [hDE.2 y (by omega), pcn_0]; exact Nat.zero_le _
        · have : pcn (E x') ≤ pcn (lbt (un d)) := pcn_mono (fun v hv => by
            have h1 := hE x' v hxc hv
            rw [pk_us] at h1; exact h1)
          rw [ew, pcn_one hw] at this
          omega
      omega
theorem vis_ok {cnt p p2 : Nat} {B : Bk} {dr br un dm dr2 br2 un2 dm2 : Nat → Int32} {vi fa so vi2 fa2 so2 r : Int32} (hM : Mid cnt p dr br un dm) (hV : Vis cnt B p vi fa so dr br un dm r p2 vi2 fa2 so2 dr2 br2 un2 dm2) : TIv cnt p2 True dr2 br2 un2 dm2 := by
  obtain ⟨h9, hrow, hd, hD, hN, hE8⟩ := hM
  obtain ⟨_, hV⟩ := hV
  rcases hV with ⟨_, _, rfl, _, _, rfl, rfl, rfl, rfl⟩ | ⟨E, hE, rfl, _, rfl, hdm2, hV⟩
  · exact ⟨h9, rfl, hrow, fun q => absurd trivial q, hd⟩
  · have hdm2 := hdm2.symm
    subst hdm2
    obtain ⟨h8, hop⟩ := hE8 E hE.1.1 hE.1.2.1
    have hz : ∀ y, cnt ≤ y → E y = 0 := hE.1.2.1.2
    have hc : ∀ y, 8 ≤ y → E y = 0 := fun y hy => by
      by_cases q : y < cnt
      · have := (hrow 0 (by omega)).2 y q
        exact absurd (rwf_out hy) this
      · exact hz y (by omega)
    have hrw : ∀ k, rwf (va_cpy E dr 0 ((p + 1) * 8) 8) k = if k = p + 1 then E else rwf dr k := fun k => cpy_row hc
    refine ⟨by omega, by rw [hrw, if_pos rfl], fun k hk => ?_, fun q => absurd trivial q, fun d hdp => ?_⟩
    · rw [hrw]
      by_cases q : k = p + 1
      · rw [if_pos q]; exact ⟨hE.1.2.1, hE.2.2⟩
      · rw [if_neg q]; exact hrow k (by omega)
    · rw [hrw]
      by_cases q : d = p
      · subst q
        rw [if_pos rfl]
        rcases hV with ⟨_, _, _, rfl, rfl⟩ | ⟨x, hx8, hxo, _, _, _, rfl, rfl⟩
        · rw [pk_us]
          exact ⟨hop, lo_0, fun q => absurd rfl q⟩
        · rw [pk_us, pk_us]
          have hxc : x < cnt := by
            refine Classical.byContradiction fun q => ?_
            rw [hz x (by omega), pcn_0] at hxo; omega
          exact ⟨hop, hE.1.2.1.1 x hxc, fun _ => ⟨x, hxc, rfl, hxo, fun v hv => hv⟩⟩
      · rw [if_neg (by omega)]
        obtain ⟨g1, g2, g3⟩ := hd d (by omega)
        rcases hV with ⟨_, _, _, rfl, rfl⟩ | ⟨x, hx8, hxo, _, _, _, rfl, rfl⟩
        · rw [pk_un q]; exact ⟨g1, g2, g3⟩
        · rw [pk_un q, pk_un q]; exact ⟨g1, g2, g3⟩
/-- the state of a search -/
abbrev TS : Type := Nat × Prop × Int32 × Int32 × Int32 × (Nat → Int32) × (Nat → Int32) × (Nat → Int32) × (Nat → Int32)
/-- one visit, or none left -/
def Tst (cnt : Nat) (B : Bk) (s : TS) (r : Nat) (t : TS) : Prop :=
  ∃ (p1 : Nat) (un1 dm1 : Nat → Int32), (Prp s.1 s.2.1 s.2.2.2.2.2.1 s.2.2.2.2.2.2.1 s.2.2.2.2.2.2.2.1 s.2.2.2.2.2.2.2.2 0 p1 un1 dm1 ∧ r = 0 ∧ t = (p1, True, s.2.2.1, s.2.2.2.1, s.2.2.2.2.1, s.2.2.2.2.2.1, s.2.2.2.2.2.2.1, un1, dm1)) ∨
    (Prp s.1 s.2.1 s.2.2.2.2.2.1 s.2.2.2.2.2.2.1 s.2.2.2.2.2.2.2.1 s.2.2.2.2.2.2.2.2 1 p1 un1 dm1 ∧ ∃ (r2 : Int32) (p2 : Nat) (vi2 fa2 so2 : Int32) (dr2 br2 un2 dm2 : Nat → Int32),
      Vis cnt B p1 s.2.2.1 s.2.2.2.1 s.2.2.2.2.1 s.2.2.2.2.2.1 s.2.2.2.2.2.2.1 un1 dm1 r2 p2 vi2 fa2 so2 dr2 br2 un2 dm2 ∧ r = (if r2 = 1 then 2 else 1) ∧ t = (p2, True, vi2, fa2, so2, dr2, br2, un2, dm2))
def Adv (cnt : Nat) (B : Bk) : Nat → TS → Nat → TS → Prop
  | 0, s, r, t => r = 1 ∧ t = s
  | n + 1, s, r, t => (∃ s1, Tst cnt B s 1 s1 ∧ Adv cnt B n s1 r t) ∨ (Tst cnt B s r t ∧ r ≠ 1)
theorem Prp.r01 {p p1 : Nat} {V : Prop} {dr br un dm un1 dm1 : Nat → Int32} {r : Int32} (h : Prp p V dr br un dm r p1 un1 dm1) : r = 0 ∨ r = 1 := by
  rcases h with ⟨_, e, _⟩ | ⟨_, _, e, _⟩ | ⟨_, d, x, _, _, _, _, _, e, _⟩
  · exact Or.inr e
  · exact Or.inl e
  · exact Or.inr e
theorem Vis.r01 {cnt p p2 : Nat} {B : Bk} {dr br un dm dr2 br2 un2 dm2 : Nat → Int32} {vi fa so vi2 fa2 so2 r : Int32} (h : Vis cnt B p vi fa so dr br un dm r p2 vi2 fa2 so2 dr2 br2 un2 dm2) : r = 0 ∨ r = 1 := by
  rcases h with ⟨_, ⟨_, e, _⟩ | ⟨E, _, _, _, _, _, ⟨_, e, _⟩ | ⟨x, _, _, _, e, _⟩⟩⟩
  · exact Or.inl e
  · exact Or.inr e
  · exact Or.inl e
