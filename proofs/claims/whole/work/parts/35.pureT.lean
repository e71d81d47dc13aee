theorem Prp.det {p p1 q1 : Nat} {V : Prop} {dr br un dm un1 dm1 vn1 em1 : Nat → Int32} {r r' : Int32} (h : Prp p V dr br un dm r p1 un1 dm1) (g : Prp p V dr br un dm r' q1 vn1 em1) : r = r' ∧ p1 = q1 ∧ un1 = vn1 ∧ dm1 = em1 := by
  rcases h with ⟨v, rfl, rfl, rfl, rfl⟩ | ⟨v, t, rfl, rfl, rfl, rfl⟩ | ⟨v, d, x, t, a1, a2, a3, a4, rfl, rfl, rfl, rfl⟩ <;> rcases g with ⟨w, rfl, rfl, rfl, rfl⟩ | ⟨w, t', rfl, rfl, rfl, rfl⟩ | ⟨w, d', x', t', b1, b2, b3, b4, rfl, rfl, rfl, rfl⟩
  · exact ⟨rfl, rfl, rfl, rfl⟩
  · exact absurd w v
  · exact absurd w v
  · exact absurd v w
  · exact ⟨rfl, rfl, rfl, rfl⟩
  · omega
  · exact absurd v w
  · omega
  · have e : d = d' := by omega
    subst e
    have e2 : x = x' := (nI_eq (by omega) (by omega)).mp (a3.symm.trans b3)
    subst e2
    exact ⟨rfl, rfl, rfl, rfl⟩
theorem Vis.det {cnt p p2 q2 : Nat} {B : Bk} {dr br un dm dr2 br2 un2 dm2 er2 cr2 vn2 em2 : Nat → Int32} {vi fa so vi2 fa2 so2 wi2 ga2 to2 r r' : Int32}
    (h : Vis cnt B p vi fa so dr br un dm r p2 vi2 fa2 so2 dr2 br2 un2 dm2) (g : Vis cnt B p vi fa so dr br un dm r' q2 wi2 ga2 to2 er2 cr2 vn2 em2) : r = r' ∧ p2 = q2 ∧ vi2 = wi2 ∧ fa2 = ga2 ∧ so2 = to2 ∧ dr2 = er2 ∧ br2 = cr2 ∧ un2 = vn2 ∧ dm2 = em2 := by
  obtain ⟨rfl, h⟩ := h
  obtain ⟨rfl, g⟩ := g
  rcases h with ⟨n1, rfl, rfl, rfl, rfl, rfl, rfl, rfl, rfl⟩ | ⟨E, hE, rfl, rfl, rfl, hdm, h⟩
  · rcases g with ⟨_, rfl, rfl, rfl, rfl, rfl, rfl, rfl, rfl⟩ | ⟨F, hF, _⟩
    · exact ⟨rfl, rfl, rfl, rfl, rfl, rfl, rfl, rfl, rfl⟩
    · exact (clo_no hF n1).elim
  · rcases g with ⟨n2, _⟩ | ⟨F, hF, rfl, rfl, rfl, hem, g⟩
    · exact (clo_no hE n2).elim
    · have e := clo_uniq hE hF
      subst e
      have hde : dm2 = em2 := hdm.trans hem.symm
      rcases h with ⟨b1, rfl, rfl, rfl, rfl⟩ | ⟨x, x8, xo, bx, rfl, rfl, rfl, rfl⟩ <;> rcases g with ⟨b2, rfl, rfl, rfl, rfl⟩ | ⟨y, y8, yo, byy, rfl, rfl, rfl, rfl⟩
      · exact ⟨rfl, rfl, rfl, rfl, rfl, rfl, rfl, rfl, hde⟩
      · exact absurd (byy.symm.trans b1) (nI_nm1 (by omega))
      · exact absurd (bx.symm.trans b2) (nI_nm1 (by omega))
      · have e2 : x = y := (nI_eq (by omega) (by omega)).mp (bx.symm.trans byy)
        subst e2
        exact ⟨rfl, rfl, rfl, rfl, rfl, rfl, rfl, rfl, hde⟩
theorem Tst.det {cnt r r' : Nat} {B : Bk} {s t t' : TS} (h : Tst cnt B s r t) (g : Tst cnt B s r' t') : r = r' ∧ t = t' := by
  obtain ⟨p1, un1, dm1, h⟩ := h
  obtain ⟨q1, vn1, em1, g⟩ := g
  rcases h with ⟨h1, rfl, rfl⟩ | ⟨h1, r2, p2, vi2, fa2, so2, dr2, br2, un2, dm2, h2, rfl, rfl⟩ <;> rcases g with ⟨g1, rfl, rfl⟩ | ⟨g1, r3, q2, wi2, ga2, to2, er2, cr2, vn2, em2, g2, rfl, rfl⟩
  · obtain ⟨_, rfl, rfl, rfl⟩ := Prp.det h1 g1
    exact ⟨rfl, rfl⟩
  · exact absurd (Prp.det h1 g1).1 (by decide)
  · exact absurd (Prp.det h1 g1).1 (by decide)
  · obtain ⟨_, rfl, rfl, rfl⟩ := Prp.det h1 g1
    obtain ⟨rfl, rfl, rfl, rfl, rfl, rfl, rfl, rfl, rfl⟩ := Vis.det h2 g2
    exact ⟨rfl, rfl⟩
theorem Adv.det {cnt : Nat} {B : Bk} : ∀ (n : Nat) (s : TS) (r r' : Nat) (t t' : TS), Adv cnt B n s r t → Adv cnt B n s r' t' → r = r' ∧ t = t' := by
  intro n
  induction n with
  | zero =>
    rintro s r r' t t' ⟨rfl, rfl⟩ ⟨rfl, rfl⟩
    exact ⟨rfl, rfl⟩
  | succ n ih =>
    intro s r r' t t' h g
    rcases h with ⟨s1, a1, a2⟩ | ⟨a1, a2⟩ <;> rcases g with ⟨s2, b1, b2⟩ | ⟨b1, b2⟩
    · obtain ⟨_, rfl⟩ := Tst.det a1 b1
      exact ih s1 r r' t t' a2 b2
    · exact absurd (Tst.det a1 b1).1.symm b2
    · exact absurd (Tst.det a1 b1).1 a2
    · exact Tst.det a1 b1
