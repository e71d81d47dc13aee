section ZS
variable {p : Program} {l : Launch} {e : Env} {R : Room} {s : State} {m : MethodId} {args : Array Value} {below : List Frame} {meth : Method} {c : Code} {H : Heap} {locs : List Loc} {cells slots : Nat} {Q : State → Prop} {cc : ByteArray} {pc nL : Nat} {ls : Array Slot} {own : String} {D : va_G} {cI : ClassId} {A : Nat → Prop} {ws : va_W} {rest : List Value} {b L : Nat} {xs : Nat → Int32}
theorem z_sld (X : Cx p s m args c cc nL own D cI) (G : Gw D A s.heap H locs ws) (hX : va_X b L xs s s.heap) (hbl : b < s.heap.size) (hbA : ¬ A b) {i : Int32} (j : Nat) (hi : i = nI j) (hj : j < L) (hL : L < 2 ^ 31) (hd : decode cc pc = .ok (.iaload, 1)) (kk : W p l e R s m args below meth c H locs cells slots Q (F0 m (pc + 1) ls (.int (xs j) :: rest))) : W p l e R s m args below meth c H locs cells slots Q (F0 m pc ls (.int i :: .ref b :: rest)) := by
  subst hi
  refine va_sld X.1 X.2.1 hX hbl hbA G.2.2.1 (vp_in_nI hj hL) hd ?_
  rw [nI_clamp (Nat.lt_trans hj hL)]
  exact kk
theorem z_slen (X : Cx p s m args c cc nL own D cI) (G : Gw D A s.heap H locs ws) (hX : va_X b L xs s s.heap) (hbl : b < s.heap.size) (hbA : ¬ A b) (hd : decode cc pc = .ok (.arraylength, 1)) (kk : W p l e R s m args below meth c H locs cells slots Q (F0 m (pc + 1) ls (.int (nI L) :: rest))) : W p l e R s m args below meth c H locs cells slots Q (F0 m pc ls (.ref b :: rest)) :=
  va_slen X.1 X.2.1 hX hbl hbA G.2.2.1 hd kk
end ZS
/-- what holds of both sides between two calls -/
def LIn (cnt lv p : Nat) (B : Bk) (mt dm od om dr br un be ch tr : Nat → Int32) (U V : Prop) (de : Int32) : Prop :=
  BOk cnt B ∧ LOk B mt ∧ DOk cnt dm ∧ NEm cnt dm ∧ lv ≤ 10 ∧ p ≤ 9 ∧ (∃ nf : Nat → Nat, ∀ i, i < lv → om i = nI (nf i) ∧ nf i ≤ B.1 ∧ ∀ j, i ≤ j → j < lv → nf i ≤ nf j) ∧ (∀ i, i < lv → DOk cnt (rwf od i) ∧ NEm cnt (rwf od i)) ∧ (U → TIv cnt p V dr br un dm ∧ MRl cnt B p dr br un be ch tr ∧ de = nI p - 1)
theorem BOk.rule {cnt : Nat} {B : Bk} {kk x y z nn : Int32} (hB : BOk cnt B) (hn : B.1 < 16) (h : RuleOk cnt (apB B kk x y z nn) B.1) : BOk cnt (apB B kk x y z nn) := by
  obtain ⟨h1, h2, h3, h4, h5⟩ := hB
  refine ⟨h1, by show B.1 + 1 ≤ 16; omega, fun k hk => ?_, h4, h5⟩
  by_cases e : k = B.1
  · rw [e]; exact h
  · have hk' : k < B.1 := by have : k < B.1 + 1 := hk; omega
    obtain ⟨a, b, c, g1, g2, g3, g4, g5, g6⟩ := h3 k hk'
    have m0 : ∀ t, t < 3 → (apB B kk x y z nn).mb (3 * k + t) = B.mb (3 * k + t) := fun t ht => by
      show upd (upd (upd B.mb (B.1 * 3) x) (B.1 * 3 + 1) y) (B.1 * 3 + 2) z (3 * k + t) = _
      rw [pk_un (by omega), pk_un (by omega), pk_un (by omega)]
    have k0 : (apB B kk x y z nn).kd k = B.kd k := pk_un e
    have n0 : (apB B kk x y z nn).nu k = B.nu k := pk_un e
    refine ⟨a, b, c, g1, g2, g3, (m0 0 (by omega)).trans g4, (m0 1 (by omega)).trans g5, ?_⟩
    rw [k0, n0, m0 2 (by omega)]
    exact g6
theorem ap_mb {B : Bk} {kk x y z nn : Int32} : (apB B kk x y z nn).mb (3 * B.1) = x ∧ (apB B kk x y z nn).mb (3 * B.1 + 1) = y ∧ (apB B kk x y z nn).mb (3 * B.1 + 2) = z := by
  have e : ∀ j, (apB B kk x y z nn).mb j = if j = B.1 * 3 then x else if j = B.1 * 3 + 1 then y else if j = B.1 * 3 + 2 then z else B.mb j := fun j => upd3
  refine ⟨?_, ?_, ?_⟩
  · rw [e, if_pos (by omega)]
  · rw [e, if_neg (by omega), if_pos (by omega)]
  · rw [e, if_neg (by omega), if_neg (by omega), if_pos (by omega)]
theorem BOk.r2 {cnt : Nat} {B : Bk} {kk x y c : Int32} (hB : BOk cnt B) (hn : B.1 < 16) (hk : kk = 0 ∨ kk = 1) (hx : 0 ≤ x.toInt ∧ x.toInt < cnt) (hy : 0 ≤ y.toInt ∧ y.toInt < cnt) (hxy : x.toInt ≠ y.toInt) (hc : -15 ≤ c.toInt ∧ c.toInt ≤ 15) : BOk cnt (apB B kk x y (-1) c) := by
  have h8 := hB.1
  obtain ⟨a, ha, ea⟩ := nI_ex (k := cnt) hx.1 hx.2 (by omega)
  obtain ⟨b, hb, eb⟩ := nI_ex (k := cnt) hy.1 hy.2 (by omega)
  obtain ⟨m1, m2, m3⟩ := ap_mb (B := B) (kk := kk) (x := x) (y := y) (z := -1) (nn := c)
  have k0 : (apB B kk x y (-1) c).kd B.1 = kk := pk_us
  have n0 : (apB B kk x y (-1) c).nu B.1 = c := pk_us
  refine hB.rule hn ⟨a, b, 0, ha, hb, fun e => hxy (by rw [ea, eb, e]), m1.trans ea, m2.trans eb, ?_⟩
  rw [k0, n0, m3]
  rcases hk with h | h
  · exact Or.inl ⟨h, rfl, hc⟩
  · exact Or.inr (Or.inl ⟨h, rfl, hc⟩)
theorem BOk.r3 {cnt : Nat} {B : Bk} {kk x y z c : Int32} (hB : BOk cnt B) (hn : B.1 < 16) (hx : 0 ≤ x.toInt ∧ x.toInt < cnt) (hy : 0 ≤ y.toInt ∧ y.toInt < cnt) (hz : 0 ≤ z.toInt ∧ z.toInt < cnt) (hxy : x.toInt ≠ y.toInt) (hyz : y.toInt ≠ z.toInt) (hxz : x.toInt ≠ z.toInt)
    (hk : (kk = 2 ∧ 0 ≤ c.toInt ∧ c.toInt ≤ 45) ∨ (kk = 3 ∧ 0 ≤ c.toInt ∧ c.toInt < 4)) : BOk cnt (apB B kk x y z c) := by
  have h8 := hB.1
  obtain ⟨a, ha, ea⟩ := nI_ex (k := cnt) hx.1 hx.2 (by omega)
  obtain ⟨b, hb, eb⟩ := nI_ex (k := cnt) hy.1 hy.2 (by omega)
  obtain ⟨d, hd, ed⟩ := nI_ex (k := cnt) hz.1 hz.2 (by omega)
  obtain ⟨m1, m2, m3⟩ := ap_mb (B := B) (kk := kk) (x := x) (y := y) (z := z) (nn := c)
  have k0 : (apB B kk x y z c).kd B.1 = kk := pk_us
  have n0 : (apB B kk x y z c).nu B.1 = c := pk_us
  refine hB.rule hn ⟨a, b, d, ha, hb, fun e => hxy (by rw [ea, eb, e]), m1.trans ea, m2.trans eb, ?_⟩
  rw [k0, n0, m3]
  rcases hk with h | ⟨h, h1, h2⟩
  · exact Or.inr (Or.inr (Or.inl ⟨h.1, hd, fun e => hxz (by rw [ea, ed, e]), fun e => hyz (by rw [eb, ed, e]), ed, h.2⟩))
  · obtain ⟨r, hr, er⟩ := nI_ex (k := 4) h1 h2 (by omega)
    exact Or.inr (Or.inr (Or.inr ⟨h, hd, fun e => hxz (by rw [ea, ed, e]), fun e => hyz (by rw [eb, ed, e]), ed, r, hr, er⟩))
theorem BOk.more {cnt : Nat} {B : Bk} (hB : BOk cnt B) (hc : cnt < 8) : BOk (cnt + 1) B := by
  obtain ⟨h1, h2, h3, h4, h5⟩ := hB
  refine ⟨by omega, h2, fun k hk => ?_, h4, h5⟩
  obtain ⟨a, b, c, g1, g2, g3, g4, g5, g6⟩ := h3 k hk
  refine ⟨a, b, c, by omega, by omega, g3, g4, g5, ?_⟩
  rcases g6 with g | g | ⟨g, gz, g7⟩ | ⟨g, gz, g7⟩
  · exact Or.inl g
  · exact Or.inr (Or.inl g)
  · exact Or.inr (Or.inr (Or.inl ⟨g, by omega, g7⟩))
  · exact Or.inr (Or.inr (Or.inr ⟨g, by omega, g7⟩))
theorem BOk.ent {cnt r : Nat} {B : Bk} {a b c : Int32} (hB : BOk cnt B) (hr : r < 4) (hl : B.ls r < 12) (ha : -1 ≤ a.toInt ∧ a.toInt < 16) (hb : -1 ≤ b.toInt ∧ b.toInt < 16) (hc : -1 ≤ c.toInt ∧ c.toInt < 16) : BOk cnt (enB B r a b c) := by
  have key : ∀ x : Int32, -1 ≤ x.toInt ∧ x.toInt < 16 → x = -1 ∨ ∃ v, v < 16 ∧ x = nI v := by
    intro x hx
    by_cases q : x.toInt = -1
    · exact Or.inl (by rw [← Int32.toInt_inj, nI_neg1]; exact q)
    · exact Or.inr (nI_ex (k := 16) (by omega) hx.2 (by omega))
  have hls := fun k hk => (hB.ls (r := k) hk).2
  obtain ⟨h1, h2, h3, h4, h5⟩ := hB
  refine ⟨h1, h2, h3, fun k hk => ?_, fun k e q hk he hq => ?_⟩
  · show ∃ s, s ≤ 12 ∧ upd B.sz r (nI (B.ls r + 1)) k = nI s
    by_cases e : k = r
    · rw [e, pk_us]; exact ⟨_, by omega, rfl⟩
    · rw [pk_un e]; exact h4 k hk
  · rw [enB_ls hl] at he
    have hlk := hls k hk
    show upd (upd (upd B.en (36 * r + 3 * B.ls r) a) (36 * r + 3 * B.ls r + 1) b) (36 * r + 3 * B.ls r + 2) c (36 * k + 3 * e + q) = -1 ∨ _
    have en : (enB B r a b c).en (36 * k + 3 * e + q) = if 36 * k + 3 * e + q = 36 * r + 3 * B.ls r then a else if 36 * k + 3 * e + q = 36 * r + 3 * B.ls r + 1 then b else if 36 * k + 3 * e + q = 36 * r + 3 * B.ls r + 2 then c else B.en (36 * k + 3 * e + q) := upd3
    show (enB B r a b c).en (36 * k + 3 * e + q) = -1 ∨ ∃ v, v < 16 ∧ (enB B r a b c).en (36 * k + 3 * e + q) = nI v
    rw [en]
    by_cases e1 : 36 * k + 3 * e + q = 36 * r + 3 * B.ls r
    · rw [if_pos e1]; exact key a ha
    · rw [if_neg e1]
      by_cases e2 : 36 * k + 3 * e + q = 36 * r + 3 * B.ls r + 1
      · rw [if_pos e2]; exact key b hb
      · rw [if_neg e2]
        by_cases e3 : 36 * k + 3 * e + q = 36 * r + 3 * B.ls r + 2
        · rw [if_pos e3]; exact key c hc
        · rw [if_neg e3]
          refine h5 k e q hk ?_ hq
          by_cases e4 : k = r
          · rw [if_pos e4] at he
            rw [e4] at e1 e2 e3 ⊢
            omega
          · rw [if_neg e4] at he; exact he
theorem BOk.back {cnt n : Nat} {B : Bk} (hB : BOk cnt B) (hn : n ≤ B.1) : BOk cnt (reB B n) :=
  ⟨hB.1, Nat.le_trans hn hB.2.1, fun k hk => hB.2.2.1 k (Nat.lt_of_lt_of_le hk hn), hB.2.2.2.1, hB.2.2.2.2⟩
theorem cpy_rw {dm od : Nat → Int32} {lv i : Nat} (h : ∀ x, 8 ≤ x → dm x = 0) : rwf (va_cpy dm od 0 (lv * 8) 8) i = if i = lv then dm else rwf od i := cpy_row h
section ZL2
variable {cnt lv p : Nat} {B : Bk} {mt dm od om dr br un be ch tr : Nat → Int32} {U V : Prop} {de : Int32}
theorem LIn.dm0 (h : LIn cnt lv p B mt dm od om dr br un be ch tr U V de) : ∀ x, 8 ≤ x → dm x = 0 := fun x hx => h.2.2.1.2 x (by have := h.1.1; omega)
theorem LIn.var (h : LIn cnt lv p B mt dm od om dr br un be ch tr U V de) {v : Int32} (hC : (¬ U ∧ lv = 0) ∧ cnt ≠ 8 ∧ 1 ≤ v.toInt ∧ v.toInt ≤ 65535) : LIn (cnt + 1) lv p B mt (upd dm cnt v) od om dr br un be ch tr U V de := by
  obtain ⟨h1, h2, h3, h4, h5, h6, h7, h8, h9⟩ := h
  obtain ⟨⟨c1, c2⟩, c3, c4, c5⟩ := hC
  have hc := h1.1
  refine ⟨h1.more (by omega), h2, ⟨fun x hx => ?_, fun x hx => ?_⟩, fun x hx => ?_, h5, h6, h7, fun i hi => absurd hi (by omega), fun q => absurd q c1⟩
  · by_cases e : x = cnt
    · rw [e, pk_us]; exact lo_of (by omega) (by omega)
    · rw [pk_un e]; exact h3.1 x (by omega)
  · rw [pk_un (by omega)]; exact h3.2 x (by omega)
  · by_cases e : x = cnt
    · rw [e, pk_us]; intro q; rw [q] at c4; exact absurd c4 (by decide)
    · rw [pk_un e]; exact h4 x (by omega)
theorem LIn.ent (h : LIn cnt lv p B mt dm od om dr br un be ch tr U V de) {rr : Nat} {a b c : Int32} {mt1 : Nat → Int32} (hU : ¬ U) (hr : rr < 4) (hl : B.ls rr < 12) (ha : -1 ≤ a.toInt ∧ a.toInt < 16) (hb : -1 ≤ b.toInt ∧ b.toInt < 16) (hc : -1 ≤ c.toInt ∧ c.toInt < 16) (hM : LOk (enB B rr a b c) mt1) : LIn cnt lv p (enB B rr a b c) mt1 dm od om dr br un be ch tr U V de := by
  obtain ⟨h1, h2, h3, h4, h5, h6, h7, h8, h9⟩ := h
  exact ⟨h1.ent hr hl ha hb hc, hM, h3, h4, h5, h6, h7, h8, fun q => absurd q hU⟩
theorem LIn.rule (h : LIn cnt lv p B mt dm od om dr br un be ch tr U V de) {kk x y z nn : Int32} (hU : ¬ U) (hB : BOk cnt (apB B kk x y z nn)) : LIn cnt lv p (apB B kk x y z nn) mt dm od om dr br un be ch tr U V de := by
  obtain ⟨h1, h2, h3, h4, h5, h6, ⟨nf, h7⟩, h8, h9⟩ := h
  exact ⟨hB, h2, h3, h4, h5, h6, ⟨nf, fun i hi => ⟨(h7 i hi).1, Nat.le_trans (h7 i hi).2.1 (Nat.le_succ _), (h7 i hi).2.2⟩⟩, h8, fun q => absurd q hU⟩
theorem LIn.dom (h : LIn cnt lv p B mt dm od om dr br un be ch tr U V de) {E : Nat → Int32} (hU : ¬ U) (hD : DOk cnt E) (hN : NEm cnt E) : LIn cnt lv p B mt E od om dr br un be ch tr U V de := by
  obtain ⟨h1, h2, h3, h4, h5, h6, h7, h8, h9⟩ := h
  exact ⟨h1, h2, hD, hN, h5, h6, h7, h8, fun q => absurd q hU⟩
theorem LIn.rem (h : LIn cnt lv p B mt dm od om dr br un be ch tr U V de) {xx vv : Nat} (hU : ¬ U) (hx : xx < cnt) (hv : vv < 16) (hb : bt (dm xx) vv = true) (ho : 1 < pcn (dm xx)) : LIn cnt lv p B mt (upd dm xx (dm xx ^^^ (nI 1 <<< (nI vv &&& 31)))) od om dr br un be ch tr U V de := by
  refine h.dom hU ⟨fun x hx' => ?_, fun x hx' => ?_⟩ (fun x hx' => ?_)
  · by_cases e : x = xx
    · rw [e, pk_us]; exact lo_xor (h.2.2.1.1 xx hx) (lo_one hv)
    · rw [pk_un e]; exact h.2.2.1.1 x hx'
  · rw [pk_un (by omega)]; exact h.2.2.1.2 x hx'
  · by_cases e : x = xx
    · rw [e, pk_us]; exact fun q => (rem_0 (h.2.2.1.1 xx hx) hv hb).mp q ho
    · rw [pk_un e]; exact h.2.2.2.1 x hx'
theorem LIn.push (h : LIn cnt lv p B mt dm od om dr br un be ch tr U V de) (hC : ¬ U ∧ lv ≠ 10) : LIn cnt (lv + 1) p B mt dm (va_cpy dm od 0 (lv * 8) 8) (upd om lv (nI B.1)) dr br un be ch tr U V de := by
  have h0 := h.dm0
  obtain ⟨h1, h2, h3, h4, h5, h6, ⟨nf, h7⟩, h8, h9⟩ := h
  refine ⟨h1, h2, h3, h4, by omega, h6, ⟨fun i => if i = lv then B.1 else nf i, fun i hi => ?_⟩, fun i hi => ?_, fun q => absurd q hC.1⟩
  · show upd om lv (nI B.1) i = nI (if i = lv then B.1 else nf i) ∧ (if i = lv then B.1 else nf i) ≤ B.1 ∧ ∀ j, i ≤ j → j < lv + 1 → (if i = lv then B.1 else nf i) ≤ (if j = lv then B.1 else nf j)
    by_cases e : i = lv
    · rw [e, pk_us]
      refine ⟨by rw [if_pos rfl], by rw [if_pos rfl]; exact Nat.le_refl _, fun j g1 g2 => ?_⟩
      rw [if_pos rfl, if_pos (by omega)]
      exact Nat.le_refl _
    · have h7i := h7 i (by omega)
      rw [pk_un e]
      refine ⟨by rw [if_neg e]; exact h7i.1, by rw [if_neg e]; exact h7i.2.1, fun j g1 g2 => ?_⟩
      rw [if_neg e]
      by_cases e2 : j = lv
      · rw [if_pos e2]; exact h7i.2.1
      · rw [if_neg e2]; exact h7i.2.2 j g1 (by omega)
  · rw [cpy_rw h0]
    by_cases e : i = lv
    · rw [if_pos e]; exact ⟨h3, h4⟩
    · rw [if_neg e]; exact h8 i (by omega)
theorem LIn.hom (h : LIn cnt lv p B mt dm od om dr br un be ch tr U V de) : ∀ i, i < lv → ∃ n, n ≤ 16 ∧ om i = nI n := by
  obtain ⟨h1, h2, h3, h4, h5, h6, ⟨nf, h7⟩, h8, h9⟩ := h
  exact fun i hi => ⟨nf i, by have := (h7 i hi).2.1; have := h1.2.1; omega, (h7 i hi).1⟩
theorem LIn.pop (h : LIn cnt lv p B mt dm od om dr br un be ch tr U V de) {l1 n1 : Nat} (hU : ¬ U) (hl : lv = l1 + 1) (hn : n1 ≤ 16) (ho : om l1 = nI n1) : LIn cnt l1 p (reB B n1) mt (va_cpy od dm (l1 * 8) 0 8) od om dr br un be ch tr U V de := by
  have h0 := h.dm0
  obtain ⟨h1, h2, h3, h4, h5, h6, ⟨nf, h7⟩, h8, h9⟩ := h
  have h7l := h7 l1 (by omega)
  have hB := h1.2.1
  have en : nf l1 = n1 := (nI_eq (by omega) (by omega)).mp (h7l.1.symm.trans ho)
  rw [cpy_rwf h0]
  refine ⟨h1.back (by rw [← en]; exact h7l.2.1), h2, (h8 l1 (by omega)).1, (h8 l1 (by omega)).2, by omega, h6, ⟨nf, fun i hi => ⟨(h7 i (by omega)).1, ?_, fun j g1 g2 => (h7 i (by omega)).2.2 j g1 (by omega)⟩⟩, fun i hi => h8 i (by omega), fun q => absurd q hU⟩
  show nf i ≤ n1
  rw [← en]; exact (h7 i (by omega)).2.2 l1 (by omega) (by omega)
theorem LIn.search (h : LIn cnt lv p B mt dm od om dr br un be ch tr U V de) : LIn cnt lv 0 B mt dm od om (va_cpy dm dr 0 (0 * 8) 8) br un (va_cpy dm be 0 0 8) ch tr True False (nI 0 - 1) := by
  have h0 := h.dm0
  obtain ⟨h1, h2, h3, h4, h5, h6, h7, h8, h9⟩ := h
  have hrw : rwf (va_cpy dm dr 0 (0 * 8) 8) 0 = dm := by rw [cpy_row h0, if_pos rfl]
  refine ⟨h1, h2, h3, h4, h5, by omega, h7, h8, fun _ => ⟨⟨by omega, hrw.symm, fun k hk => ?_, fun _ => rfl, fun d hd => absurd hd (Nat.not_lt_zero d)⟩, ⟨fun x hx => ?_, fun d hd => absurd hd (Nat.not_lt_zero d), fun d hd => absurd hd (Nat.not_lt_zero d), fun d hd => absurd hd (Nat.not_lt_zero _)⟩, rfl⟩⟩
  · rw [Nat.le_zero.mp hk, hrw]; exact ⟨h3, h4⟩
  · rw [cpy_in8 hx]
    exact (cpy_in8 (db := dr) hx).symm
theorem LIn.fin (h : LIn cnt lv p B mt dm od om dr br un be ch tr U V de) {dr1 br1 un1 ch1 tr1 dm1 : Nat → Int32} {V1 : Prop} {de1 : Int32} (hd : DOk cnt (rwf dr1 0) ∧ NEm cnt (rwf dr1 0)) (hz : ∀ x, 8 ≤ x → dm1 x = 0) : LIn cnt lv 0 B mt (va_cpy dr1 dm1 (0 * 8) 0 8) od om dr1 br1 un1 be ch1 tr1 False V1 de1 := by
  obtain ⟨h1, h2, h3, h4, h5, h6, h7, h8, h9⟩ := h
  rw [cpy_rwf hz]
  exact ⟨h1, h2, hd.1, hd.2, h5, by omega, h7, h8, fun q => q.elim⟩
theorem LIn.adv (h : LIn cnt lv p B mt dm od om dr br un be ch tr U V de) {p1 : Nat} {dr1 br1 un1 dm1 ch1 tr1 : Nat → Int32} (hT : TIv cnt p1 True dr1 br1 un1 dm1) (hR : MRl cnt B p1 dr1 br1 un1 be ch1 tr1) : LIn cnt lv p1 B mt dm1 od om dr1 br1 un1 be ch1 tr1 U True (nI p1 - 1) := by
  obtain ⟨h1, h2, h3, h4, h5, h6, h7, h8, h9⟩ := h
  have hp := hT.2.2.1 p1 (Nat.le_refl _)
  rw [← hT.2.1] at hp
  exact ⟨h1, h2, hp.1, hp.2, h5, hT.1, h7, h8, fun _ => ⟨hT, hR, rfl⟩⟩
theorem mb_row0 (h : LIn cnt lv p B mt dm od om dr br un be ch tr U V de) (hU : U) {dmx dmy : Nat → Int32} (hx : ∀ x, 8 ≤ x → dmx x = 0) (hy : ∀ x, 8 ≤ x → dmy x = 0) : va_cpy be dmx 0 0 8 = va_cpy dr dmy (0 * 8) 0 8 := by
  rw [cpy_rw0 hx, cpy_rwf hy]
  exact mrl_be (h.2.2.2.2.2.2.2.2 hU).2.1.1
end ZL2
