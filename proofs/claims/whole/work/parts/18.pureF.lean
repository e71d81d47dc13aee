/-- a rule more -/
def apB (B : Bk) (kk x y z nn : Int32) : Bk := (B.1 + 1, upd B.kd B.1 kk, upd (upd (upd B.mb (B.1 * 3) x) (B.1 * 3 + 1) y) (B.1 * 3 + 2) z, upd B.nu B.1 nn, B.sz, B.en)
/-- an entry more -/
def enB (B : Bk) (r : Nat) (a b c : Int32) : Bk := (B.1, B.kd, B.mb, B.nu, upd B.sz r (nI (B.ls r + 1)), upd (upd (upd B.en (36 * r + 3 * B.ls r) a) (36 * r + 3 * B.ls r + 1) b) (36 * r + 3 * B.ls r + 2) c)
theorem enB_ls {B : Bk} {r : Nat} {a b c : Int32} (hl : B.ls r < 12) (k : Nat) : (enB B r a b c).ls k = if k = r then B.ls r + 1 else B.ls k := by
  show (upd B.sz r (nI (B.ls r + 1)) k).toNatClampNeg = _
  by_cases e : k = r
  · rw [e, pk_us, if_pos rfl, nI_clamp (by omega)]
  · rw [pk_un e, if_neg e]
theorem upd3 {f : Nat → Int32} {s : Nat} {a b c : Int32} {j : Nat} : upd (upd (upd f s a) (s + 1) b) (s + 2) c j = if j = s then a else if j = s + 1 then b else if j = s + 2 then c else f j := by
  by_cases h2 : j = s + 2
  · rw [h2, pk_us, if_neg (by omega), if_neg (by omega), if_pos rfl]
  · rw [pk_un h2]
    by_cases h1 : j = s + 1
    · rw [h1, pk_us, if_neg (by omega), if_pos rfl]
    · rw [pk_un h1]
      by_cases h0 : j = s
      · rw [h0, pk_us, if_pos rfl]
      · rw [pk_un h0, if_neg h0, if_neg h1, if_neg h2]
theorem LOk.ent {B : Bk} {mt : Nat → Int32} {r : Nat} {a b c m1 m2 m3 : Int32} (h : LOk B mt) (hr : r < 4) (hl : B.ls r < 12) (hls : ∀ k, k < 4 → B.ls k ≤ 12)
    (h1 : lo16 m1 ∧ ∀ v, v < 16 → (bt m1 v = true ↔ mat a v)) (h2 : lo16 m2 ∧ ∀ v, v < 16 → (bt m2 v = true ↔ mat b v)) (h3 : lo16 m3 ∧ ∀ v, v < 16 → (bt m3 v = true ↔ mat c v)) :
    LOk (enB B r a b c) (upd (upd (upd mt ((r * 12 + B.ls r) * 3) m1) ((r * 12 + B.ls r) * 3 + 1) m2) ((r * 12 + B.ls r) * 3 + 2) m3) := by
  intro k e t hk he ht
  rw [enB_ls hl] at he
  have hlk := hls k hk
  rw [upd3]
  show _ ∧ ∀ v, v < 16 → (_ ↔ mat (upd (upd (upd B.en (36 * r + 3 * B.ls r) a) (36 * r + 3 * B.ls r + 1) b) (36 * r + 3 * B.ls r + 2) c (36 * k + 3 * e + t)) v)
  rw [upd3]
  by_cases q : k = r ∧ e = B.ls r
  · obtain ⟨rfl, rfl⟩ := q
    rcases (by omega : t = 0 ∨ t = 1 ∨ t = 2) with rfl | rfl | rfl
    · rw [if_pos (by omega), if_pos (by omega)]; exact h1
    · rw [if_neg (by omega), if_pos (by omega), if_neg (by omega), if_pos (by omega)]; exact h2
    · rw [if_neg (by omega), if_neg (by omega), if_pos (by omega), if_neg (by omega), if_neg (by omega), if_pos (by omega)]; exact h3
  · have he2 : e < B.ls k := by
      by_cases e1 : k = r
      · rw [if_pos e1] at he
        have : e ≠ B.ls r := fun z => q ⟨e1, z⟩
        rw [e1]; omega
      · rw [if_neg e1] at he; exact he
    have hd : k * 12 + e ≠ r * 12 + B.ls r := by
      by_cases e1 : k = r
      · have : e ≠ B.ls r := fun z => q ⟨e1, z⟩
        rw [e1]; omega
      · omega
    rw [if_neg (by omega), if_neg (by omega), if_neg (by omega), if_neg (by omega), if_neg (by omega), if_neg (by omega)]
    exact h k e t hk he2 ht
theorem tot_mono {cnt : Nat} {D E : Nat → Int32} (hD : DOk cnt D) (hE : DOk cnt E) (h : Le cnt E D) : tot E ≤ tot D := by
  refine sm_mono (fun x _ => pcn_mono (fun v hb => ?_))
  by_cases hx : x < cnt
  · exact h x v hx hb
  · rw [hE.2 x (by omega), b_0] at hb; exact absurd hb (by decide)
theorem cpy_back {dm db E : Nat → Int32} (h1 : ∀ x, 8 ≤ x → E x = 0) (h2 : ∀ x, 8 ≤ x → dm x = 0) : va_cpy (va_cpy dm db 0 0 8) E 0 0 8 = dm := by
  funext x
  by_cases hx : x < 8
  · rw [pk_cpy_in (by omega) (by omega), pk_cpy_in (by omega) (by omega)]
    congr 1; omega
  · rw [pk_cpy_out (by omega), h1 x (by omega), h2 x (by omega)]
theorem cpy_in8 {dm db : Nat → Int32} {x : Nat} (hx : x < 8) : va_cpy dm db 0 0 8 x = dm x := by
  rw [pk_cpy_in (by omega) (by omega)]; congr 1; omega
theorem tot_cpy {dm db : Nat → Int32} : tot (va_cpy dm db 0 0 8) = tot dm := sm_congr (fun x hx => by show pcn (va_cpy dm db 0 0 8 x) = pcn (dm x); rw [cpy_in8 hx])
