def TvS (cnt : Nat) (s : TS) : Prop := TIv cnt s.1 s.2.1 s.2.2.2.2.2.1 s.2.2.2.2.2.2.1 s.2.2.2.2.2.2.2.1 s.2.2.2.2.2.2.2.2
theorem Tst.keeps {cnt r : Nat} {B : Bk} {s t : TS} (hc : cnt ≤ 8) (hT : TvS cnt s) (h : Tst cnt B s r t) : (∀ x, x < 8 → t.2.2.2.2.2.1 x = s.2.2.2.2.2.1 x) ∧ (∀ x, 8 ≤ x → t.2.2.2.2.2.2.2.2 x = 0) ∧ (r ≠ 0 → TvS cnt t) := by
  obtain ⟨p1, un1, dm1, h⟩ := h
  rcases h with ⟨h1, rfl, rfl⟩ | ⟨h1, r2, p2, vi2, fa2, so2, dr2, br2, un2, dm2, h2, hr, rfl⟩
  · refine ⟨fun x _ => rfl, fun x hx => ?_, fun q => absurd rfl q⟩
    have e : dm1 = s.2.2.2.2.2.2.2.2 := by
      rcases h1 with ⟨_, e, _⟩ | ⟨_, _, _, _, _, e⟩ | ⟨_, d, y, _, _, _, _, _, e, _⟩
      · exact absurd e (by decide)
      · exact e
      · exact absurd e (by decide)
    show dm1 x = 0
    rw [e, hT.2.1]; exact rwf_out hx
  · have hM := prp_mid hc hT h1 (by decide)
    have hV := vis_ok hM h2
    refine ⟨fun x hx => ?_, fun x hx => ?_, fun _ => hV⟩
    · show dr2 x = _
      rcases h2 with ⟨_, ⟨_, _, _, _, _, rfl, _⟩ | ⟨E, _, _, _, rfl, _⟩⟩
      · rfl
      · exact pk_cpy_out (by omega)
    · show dm2 x = 0
      rw [hV.2.1]; exact rwf_out hx
theorem Adv.keeps {cnt : Nat} {B : Bk} (hc : cnt ≤ 8) : ∀ (n : Nat) (s : TS) (r : Nat) (t : TS), TvS cnt s → Adv cnt B n s r t → (∀ x, x < 8 → t.2.2.2.2.2.1 x = s.2.2.2.2.2.1 x) ∧ ∀ x, 8 ≤ x → t.2.2.2.2.2.2.2.2 x = 0 := by
  intro n
  induction n with
  | zero =>
    rintro s r t hT ⟨_, rfl⟩
    exact ⟨fun x _ => rfl, fun x hx => by rw [hT.2.1]; exact rwf_out hx⟩
  | succ n ih =>
    intro s r t hT h
    rcases h with ⟨s1, a1, a2⟩ | ⟨a1, _⟩
    · obtain ⟨g1, _, g3⟩ := Tst.keeps hc hT a1
      obtain ⟨k1, k2⟩ := ih s1 r t (g3 (by decide)) a2
      exact ⟨fun x hx => (k1 x hx).trans (g1 x hx), k2⟩
    · obtain ⟨g1, g2, _⟩ := Tst.keeps hc hT a1
      exact ⟨g1, g2⟩
theorem row0_eq {dr dr1 : Nat → Int32} (h : ∀ x, x < 8 → dr1 x = dr x) : rwf dr1 0 = rwf dr 0 := mrl_be h
theorem vx_inj {cnt k t1 t2 : Nat} {B : Bk} (hB : BOk cnt B) (hk : k < B.1) (h1 : t1 < wd B k) (h2 : t2 < wd B k) (e : B.vx k t1 = B.vx k t2) : t1 = t2 := by
  have p1 := (wd_Pl hB hk).mp h1
  have p2 := (wd_Pl hB hk).mp h2
  have v1 := (Pl.vx hB p1).2
  have v2 := (Pl.vx hB p2).2
  obtain ⟨x, y, z, hx, hy, hxy, e0, e1, h3⟩ := hB.2.2.1 k hk
  have hc := hB.1
  have em : B.mb (3 * k + t1) = B.mb (3 * k + t2) := by rw [v1, v2, e]
  have nxy : nI x ≠ nI y := fun q => hxy ((nI_eq (by omega) (by omega)).mp q)
  have key : ∀ w : Nat, w < cnt → B.mb (3 * k + 2) = nI w → x ≠ w → y ≠ w → t1 = t2 := by
    intro w hw e2 hxw hyw
    have nxw : nI x ≠ nI w := fun q => hxw ((nI_eq (by omega) (by omega)).mp q)
    have nyw : nI y ≠ nI w := fun q => hyw ((nI_eq (by omega) (by omega)).mp q)
    have t13 := p1.2.1
    have t23 := p2.2.1
    rcases (by omega : t1 = 0 ∨ t1 = 1 ∨ t1 = 2) with rfl | rfl | rfl <;> rcases (by omega : t2 = 0 ∨ t2 = 1 ∨ t2 = 2) with rfl | rfl | rfl
    · rfl
    · rw [show 3 * k + 0 = 3 * k from rfl, e0, e1] at em; exact absurd em nxy
    · rw [show 3 * k + 0 = 3 * k from rfl, e0, e2] at em; exact absurd em nxw
    · rw [show 3 * k + 0 = 3 * k from rfl, e0, e1] at em; exact absurd em.symm nxy
    · rfl
    · rw [e1, e2] at em; exact absurd em nyw
    · rw [show 3 * k + 0 = 3 * k from rfl, e0, e2] at em; exact absurd em.symm nxw
    · rw [e1, e2] at em; exact absurd em.symm nyw
    · rfl
  have two : B.mb (3 * k + 2) = -1 → t1 = t2 := by
    intro e2
    have a1 : t1 ≠ 2 := fun q => p1.2.2 (by rw [q, e2, nI_neg1]; omega)
    have a2 : t2 ≠ 2 := fun q => p2.2.2 (by rw [q, e2, nI_neg1]; omega)
    have t13 := p1.2.1
    have t23 := p2.2.1
    rcases (by omega : t1 = 0 ∨ t1 = 1) with rfl | rfl <;> rcases (by omega : t2 = 0 ∨ t2 = 1) with rfl | rfl
    · rfl
    · rw [show 3 * k + 0 = 3 * k from rfl, e0, e1] at em; exact absurd em nxy
    · rw [show 3 * k + 0 = 3 * k from rfl, e0, e1] at em; exact absurd em.symm nxy
    · rfl
  rcases h3 with ⟨_, e2, _⟩ | ⟨_, e2, _⟩ | ⟨_, hz, g1, g2, e2, _⟩ | ⟨_, hz, g1, g2, e2, _⟩
  · exact two e2
  · exact two e2
  · exact key z hz e2 g1 g2
  · exact key z hz e2 g1 g2
theorem Tst.lt {cnt r : Nat} {B : Bk} {s t : TS} (h : Tst cnt B s r t) : r < 3 := by
  obtain ⟨p1, un1, dm1, h⟩ := h
  rcases h with ⟨_, rfl, _⟩ | ⟨_, r2, p2, vi2, fa2, so2, dr2, br2, un2, dm2, _, rfl, _⟩
  · omega
  · split <;> omega
theorem adv_lt {cnt : Nat} {B : Bk} : ∀ (n : Nat) (s : TS) (r : Nat) (t : TS), Adv cnt B n s r t → r < 3 := by
  intro n
  induction n with
  | zero => rintro s r t ⟨rfl, _⟩; omega
  | succ n ih =>
    intro s r t h
    rcases h with ⟨s1, _, a2⟩ | ⟨a1, _⟩
    · exact ih s1 r t a2
    · exact a1.lt
theorem lw_l5 {L : Nat} (h : L ≤ 2560) : (nI L - nI 5).toInt = (L : Int) - 5 := by
  have h5 : (nI 5).toInt = 5 := by decide
  rw [t_sub (by rw [nI_toInt (by omega), h5]; omega), nI_toInt (by omega), h5]
def B0 : Bk := (0, z0, z0, z0, z0, z0)
theorem LIn0 : LIn 0 0 0 B0 z0 z0 z0 z0 z0 z0 z0 z0 z0 z0 False False (nI 0) := by
  have hl : ∀ r, B0.ls r = 0 := fun r => by show (nI 0).toNatClampNeg = 0; decide
  refine ⟨⟨by omega, by show 0 ≤ 16; omega, fun k hk => absurd hk (Nat.not_lt_zero k), fun r _ => ⟨0, by omega, rfl⟩, fun r e q _ he _ => ?_⟩, fun r e t _ he _ => ?_, ⟨fun x hx => absurd hx (Nat.not_lt_zero x), fun x _ => rfl⟩, fun x hx => absurd hx (Nat.not_lt_zero x), by omega, by omega, ⟨fun _ => 0, fun i hi => absurd hi (Nat.not_lt_zero i)⟩, fun i hi => absurd hi (Nat.not_lt_zero i), fun q => q.elim⟩
  · rw [hl] at he; exact absurd he (Nat.not_lt_zero e)
  · rw [hl] at he; exact absurd he (Nat.not_lt_zero e)
