set_option maxHeartbeats 4000000 in
set_option maxRecDepth 100000 in
theorem c_close (l : Launch) (D : va_G) (cI : ClassId) (q : Nat → Nat) (cnt lv p : Nat) (B : Bk) (mt dm db od om dr br un : Nat → Int32) (U V : Prop) (vi fa so : Int32) (hB : BOk cnt B) (hM : LOk B mt) (hD : DOk cnt dm) (hne : NEm cnt dm) (hlv : lv ≤ 10) : MI l y_TD_close b_TD_close 1 .int 6 D cI [.ref (q 0)] [((q 0), .inr (0, [.ref (q 1), .ref (q 2), .ref (q 3), .ref (q 10), .ref (q 13), .int (nI cnt)])), ((q 1), .inl (cI, 8, .inl dm)), ((q 2), .inl (cI, 8, .inl db)), ((q 3), .inr (2, [.ref (q 4), .int (nI (B.1)), .ref (q 5), .ref (q 6), .ref (q 7)])), ((q 4), .inr (1, [.ref (q 8), .ref (q 9)])), ((q 5), .inl (cI, 16, .inl B.kd)), ((q 6), .inl (cI, 48, .inl B.mb)), ((q 7), .inl (cI, 16, .inl B.nu)), ((q 8), .inl (cI, 144, .inl mt)), ((q 9), .inl (cI, 4, .inl B.sz)), ((q 10), .inr (3, [.int (nI lv), .ref (q 11), .ref (q 12)])), ((q 11), .inl (cI, 80, .inl od)), ((q 12), .inl (cI, 10, .inl om)), ((q 13), .inr (4, [.int (bP (U)), .int (nI p - 1), .int vi, .int fa, .int so, .ref (q 14), .ref (q 15), .ref (q 16), .int (bP (V))])), ((q 14), .inl (cI, 80, .inl dr)), ((q 15), .inl (cI, 9, .inl br)), ((q 16), .inl (cI, 9, .inl un))] (fun r u => (U ∧ r = -1 ∧ u = [((q 0), .inr (0, [.ref (q 1), .ref (q 2), .ref (q 3), .ref (q 10), .ref (q 13), .int (nI cnt)])), ((q 1), .inl (cI, 8, .inl dm)), ((q 2), .inl (cI, 8, .inl db)), ((q 3), .inr (2, [.ref (q 4), .int (nI (B.1)), .ref (q 5), .ref (q 6), .ref (q 7)])), ((q 4), .inr (1, [.ref (q 8), .ref (q 9)])), ((q 5), .inl (cI, 16, .inl B.kd)), ((q 6), .inl (cI, 48, .inl B.mb)), ((q 7), .inl (cI, 16, .inl B.nu)), ((q 8), .inl (cI, 144, .inl mt)), ((q 9), .inl (cI, 4, .inl B.sz)), ((q 10), .inr (3, [.int (nI lv), .ref (q 11), .ref (q 12)])), ((q 11), .inl (cI, 80, .inl od)), ((q 12), .inl (cI, 10, .inl om)), ((q 13), .inr (4, [.int (bP (U)), .int (nI p - 1), .int vi, .int fa, .int so, .ref (q 14), .ref (q 15), .ref (q 16), .int (bP (V))])), ((q 14), .inl (cI, 80, .inl dr)), ((q 15), .inl (cI, 9, .inl br)), ((q 16), .inl (cI, 9, .inl un))]) ∨ (¬ U ∧ NoClo cnt B dm ∧ r = -1 ∧ ∃ db1, u = [((q 0), .inr (0, [.ref (q 1), .ref (q 2), .ref (q 3), .ref (q 10), .ref (q 13), .int (nI cnt)])), ((q 1), .inl (cI, 8, .inl dm)), ((q 2), .inl (cI, 8, .inl db1)), ((q 3), .inr (2, [.ref (q 4), .int (nI (B.1)), .ref (q 5), .ref (q 6), .ref (q 7)])), ((q 4), .inr (1, [.ref (q 8), .ref (q 9)])), ((q 5), .inl (cI, 16, .inl B.kd)), ((q 6), .inl (cI, 48, .inl B.mb)), ((q 7), .inl (cI, 16, .inl B.nu)), ((q 8), .inl (cI, 144, .inl mt)), ((q 9), .inl (cI, 4, .inl B.sz)), ((q 10), .inr (3, [.int (nI lv), .ref (q 11), .ref (q 12)])), ((q 11), .inl (cI, 80, .inl od)), ((q 12), .inl (cI, 10, .inl om)), ((q 13), .inr (4, [.int (bP (U)), .int (nI p - 1), .int vi, .int fa, .int so, .ref (q 14), .ref (q 15), .ref (q 16), .int (bP (V))])), ((q 14), .inl (cI, 80, .inl dr)), ((q 15), .inl (cI, 9, .inl br)), ((q 16), .inl (cI, 9, .inl un))]) ∨ (¬ U ∧ ∃ E db1, IsClo cnt B dm E ∧ r = nI (tot dm - tot E) ∧ u = [((q 0), .inr (0, [.ref (q 1), .ref (q 2), .ref (q 3), .ref (q 10), .ref (q 13), .int (nI cnt)])), ((q 1), .inl (cI, 8, .inl E)), ((q 2), .inl (cI, 8, .inl db1)), ((q 3), .inr (2, [.ref (q 4), .int (nI (B.1)), .ref (q 5), .ref (q 6), .ref (q 7)])), ((q 4), .inr (1, [.ref (q 8), .ref (q 9)])), ((q 5), .inl (cI, 16, .inl B.kd)), ((q 6), .inl (cI, 48, .inl B.mb)), ((q 7), .inl (cI, 16, .inl B.nu)), ((q 8), .inl (cI, 144, .inl mt)), ((q 9), .inl (cI, 4, .inl B.sz)), ((q 10), .inr (3, [.int (nI lv), .ref (q 11), .ref (q 12)])), ((q 11), .inl (cI, 80, .inl od)), ((q 12), .inl (cI, 10, .inl om)), ((q 13), .inr (4, [.int (bP (U)), .int (nI p - 1), .int vi, .int fa, .int so, .ref (q 14), .ref (q 15), .ref (q 16), .int (bP (V))])), ((q 14), .inl (cI, 80, .inl dr)), ((q 15), .inl (cI, 9, .inl br)), ((q 16), .inl (cI, 9, .inl un))])) := by
  refine MI.of (by decide) (Nat.le_of_ble_eq_true rfl) ?_
  intro zp ze zs zm zb zt zc ls A X hrt hlk G hl
  have hx := X.1
  have hb := X.2.1
  have hl : lv_has ls 1 [(0, .ref (q 0))] := hl
  have hc8 := hB.1
  have hn16 := hB.2.1
  refine lv_aload_n hx hb d_TD_close_0 rfl (lv_at hl 0 rfl) ?_
  refine gf_TD_33 X G 0 rfl rfl d_TD_close_1 ?_
  refine gf_TD_82 X G 13 rfl rfl d_TD_close_4 ?_
  refine zb_eq hx hb d_TD_close_7 rfl (fun h7 => ?_) (fun h7 => ?_)
  · skip
    refine lv_aload_n hx hb d_TD_close_12 rfl (lv_at hl 0 rfl) ?_
    refine gf_TD_9 X G 0 rfl rfl d_TD_close_13 ?_
    refine lv_iconst (v := (nI 0)) hx hb d_TD_close_16 (by decide) ?_
    refine lv_aload_n hx hb d_TD_close_17 rfl (lv_at hl 0 rfl) ?_
    refine gf_TD_13 X G 0 rfl rfl d_TD_close_18 ?_
    refine lv_iconst (v := (nI 0)) hx hb d_TD_close_21 (by decide) ?_
    refine lv_bipush (v := (nI 8)) hx hb d_TD_close_22 (by decide) ?_
    refine z_copy X G lk_TD_96.1 lk_TD_96.2.1 lk_TD_96.2.2.1 lk_TD_96.2.2.2 1 2 rfl rfl 0 0 8 rfl rfl rfl (by omega) (by omega) (by decide) (by decide) hl.1 (by decide) (Nat.le_of_ble_eq_true rfl) d_TD_close_24 (fun H locs G => ?_)
    have G : Gw D A zs.heap H locs [((q 0), .inr (0, [.ref (q 1), .ref (q 2), .ref (q 3), .ref (q 10), .ref (q 13), .int (nI cnt)])), ((q 1), .inl (cI, 8, .inl dm)), ((q 2), .inl (cI, 8, .inl (va_cpy dm db 0 0 8))), ((q 3), .inr (2, [.ref (q 4), .int (nI (B.1)), .ref (q 5), .ref (q 6), .ref (q 7)])), ((q 4), .inr (1, [.ref (q 8), .ref (q 9)])), ((q 5), .inl (cI, 16, .inl B.kd)), ((q 6), .inl (cI, 48, .inl B.mb)), ((q 7), .inl (cI, 16, .inl B.nu)), ((q 8), .inl (cI, 144, .inl mt)), ((q 9), .inl (cI, 4, .inl B.sz)), ((q 10), .inr (3, [.int (nI lv), .ref (q 11), .ref (q 12)])), ((q 11), .inl (cI, 80, .inl od)), ((q 12), .inl (cI, 10, .inl om)), ((q 13), .inr (4, [.int (bP (U)), .int (nI p - 1), .int vi, .int fa, .int so, .ref (q 14), .ref (q 15), .ref (q 16), .int (bP (V))])), ((q 14), .inl (cI, 80, .inl dr)), ((q 15), .inl (cI, 9, .inl br)), ((q 16), .inl (cI, 9, .inl un))] := G
    refine lv_aload_n hx hb d_TD_close_27 rfl (lv_at hl 0 rfl) ?_
    refine gf_TD_19 X G 0 rfl rfl d_TD_close_28 ?_
    refine lv_aload_n hx hb d_TD_close_31 rfl (lv_at hl 0 rfl) ?_
    refine gf_TD_9 X G 0 rfl rfl d_TD_close_32 ?_
    refine zV_I (wr := [((q 0), .inr (0, [.ref (q 1), .ref (q 2), .ref (q 3), .ref (q 10), .ref (q 13), .int (nI cnt)])), ((q 2), .inl (cI, 8, .inl (va_cpy dm db 0 0 8))), ((q 10), .inr (3, [.int (nI lv), .ref (q 11), .ref (q 12)])), ((q 11), .inl (cI, 80, .inl od)), ((q 12), .inl (cI, 10, .inl om)), ((q 13), .inr (4, [.int (bP (U)), .int (nI p - 1), .int vi, .int fa, .int so, .ref (q 14), .ref (q 15), .ref (q 16), .int (bP (V))])), ((q 14), .inl (cI, 80, .inl dr)), ((q 15), .inl (cI, 9, .inl br)), ((q 16), .inl (cI, 9, .inl un))]) X G (c_narrow l D cI q cnt B mt dm hB hM hD hne) lk_TD_102 [3, 4, 5, 6, 7, 8, 9, 1] rfl (by decide) [0, 2, 10, 11, 12, 13, 14, 15, 16] rfl (by decide) (by decide) 0 rfl rfl ⟨by decide, by decide⟩ ⟨Nat.zero_le _, Nat.zero_le _⟩ hl.1 rfl (Nat.le_of_ble_eq_true rfl) d_TD_close_35 (fun r35 u H locs q35 G => ?_)
    obtain ⟨E, rfl, q35⟩ := q35
    have G : Gw D A zs.heap H locs [((q 0), .inr (0, [.ref (q 1), .ref (q 2), .ref (q 3), .ref (q 10), .ref (q 13), .int (nI cnt)])), ((q 1), .inl (cI, 8, .inl E)), ((q 2), .inl (cI, 8, .inl (va_cpy dm db 0 0 8))), ((q 3), .inr (2, [.ref (q 4), .int (nI (B.1)), .ref (q 5), .ref (q 6), .ref (q 7)])), ((q 4), .inr (1, [.ref (q 8), .ref (q 9)])), ((q 5), .inl (cI, 16, .inl B.kd)), ((q 6), .inl (cI, 48, .inl B.mb)), ((q 7), .inl (cI, 16, .inl B.nu)), ((q 8), .inl (cI, 144, .inl mt)), ((q 9), .inl (cI, 4, .inl B.sz)), ((q 10), .inr (3, [.int (nI lv), .ref (q 11), .ref (q 12)])), ((q 11), .inl (cI, 80, .inl od)), ((q 12), .inl (cI, 10, .inl om)), ((q 13), .inr (4, [.int (bP (U)), .int (nI p - 1), .int vi, .int fa, .int so, .ref (q 14), .ref (q 15), .ref (q 16), .int (bP (V))])), ((q 14), .inl (cI, 80, .inl dr)), ((q 15), .inl (cI, 9, .inl br)), ((q 16), .inl (cI, 9, .inl un))] := G.sub [0, 16, 1, 9, 10, 11, 12, 13, 14, 15, 2, 3, 4, 5, 6, 7, 8] (by decide) rfl
    refine zi_if_ne hx hb d_TD_close_38 rfl rfl (fun h38 => ?_) (fun h38 => ?_)
    · skip
      obtain ⟨hr1, hE⟩ : r35 = 1 ∧ IsClo cnt B dm E := by
        rcases q35 with h9 | h9
        · exact h9
        · rw [h9.1] at h38; exact absurd rfl h38
      have hDE := hE.1.2.1
      refine lv_aload_n hx hb d_TD_close_58 rfl (lv_at hl 0 rfl) ?_
      refine gf_TD_13 X G 0 rfl rfl d_TD_close_59 ?_
      refine zS_R X G (c_countValues l D cI (q 2) (va_cpy dm db 0 0 8) (fun x h9 => by rw [cpy_in8 h9]; exact hD.lo x)) lk_TD_106 [2] rfl (by decide) ⟨by decide, by decide⟩ ⟨Nat.zero_le _, Nat.zero_le _⟩ hl.1 rfl (Nat.le_of_ble_eq_true rfl) d_TD_close_62 (fun H locs G => ?_)
      refine z_top (nI (tot dm)) (congrArg nI tot_cpy) ?_
      refine lv_aload_n hx hb d_TD_close_65 rfl (lv_at hl 0 rfl) ?_
      refine gf_TD_9 X G 0 rfl rfl d_TD_close_66 ?_
      refine zS_R X G (c_countValues l D cI (q 1) E (fun x _ => hDE.lo x)) lk_TD_106 [1] rfl (by decide) ⟨by decide, by decide⟩ ⟨Nat.zero_le _, Nat.zero_le _⟩ hl.1 rfl (Nat.le_of_ble_eq_true rfl) d_TD_close_69 (fun H locs G => ?_)
      refine zn_sub hx hb (tot_mono hD hDE hE.1.1) d_TD_close_72 ?_
      exact z_ret X hrt hlk G (rfl) (Or.inr (Or.inr ⟨h7, E, _, hE, rfl, rfl⟩)) d_TD_close_73
    · skip
      obtain ⟨hr0, hE, hDE⟩ : r35 = 0 ∧ NoClo cnt B dm ∧ DOk cnt E := by
        rcases q35 with h9 | h9
        · rw [h9.1] at h38; exact absurd h38 (by decide)
        · exact h9
      refine lv_aload_n hx hb d_TD_close_41 rfl (lv_at hl 0 rfl) ?_
      refine gf_TD_13 X G 0 rfl rfl d_TD_close_42 ?_
      refine lv_iconst (v := (nI 0)) hx hb d_TD_close_45 (by decide) ?_
      refine lv_aload_n hx hb d_TD_close_46 rfl (lv_at hl 0 rfl) ?_
      refine gf_TD_9 X G 0 rfl rfl d_TD_close_47 ?_
      refine lv_iconst (v := (nI 0)) hx hb d_TD_close_50 (by decide) ?_
      refine lv_bipush (v := (nI 8)) hx hb d_TD_close_51 (by decide) ?_
      refine z_copy X G lk_TD_96.1 lk_TD_96.2.1 lk_TD_96.2.2.1 lk_TD_96.2.2.2 2 1 rfl rfl 0 0 8 rfl rfl rfl (by omega) (by omega) (by decide) (by decide) hl.1 (by decide) (Nat.le_of_ble_eq_true rfl) d_TD_close_53 (fun H locs G => ?_)
      have G : Gw D A zs.heap H locs [((q 0), .inr (0, [.ref (q 1), .ref (q 2), .ref (q 3), .ref (q 10), .ref (q 13), .int (nI cnt)])), ((q 1), .inl (cI, 8, .inl (va_cpy (va_cpy dm db 0 0 8) E 0 0 8))), ((q 2), .inl (cI, 8, .inl (va_cpy dm db 0 0 8))), ((q 3), .inr (2, [.ref (q 4), .int (nI (B.1)), .ref (q 5), .ref (q 6), .ref (q 7)])), ((q 4), .inr (1, [.ref (q 8), .ref (q 9)])), ((q 5), .inl (cI, 16, .inl B.kd)), ((q 6), .inl (cI, 48, .inl B.mb)), ((q 7), .inl (cI, 16, .inl B.nu)), ((q 8), .inl (cI, 144, .inl mt)), ((q 9), .inl (cI, 4, .inl B.sz)), ((q 10), .inr (3, [.int (nI lv), .ref (q 11), .ref (q 12)])), ((q 11), .inl (cI, 80, .inl od)), ((q 12), .inl (cI, 10, .inl om)), ((q 13), .inr (4, [.int (bP (U)), .int (nI p - 1), .int vi, .int fa, .int so, .ref (q 14), .ref (q 15), .ref (q 16), .int (bP (V))])), ((q 14), .inl (cI, 80, .inl dr)), ((q 15), .inl (cI, 9, .inl br)), ((q 16), .inl (cI, 9, .inl un))] := G
      rw [show (va_cpy (va_cpy dm db 0 0 8) E 0 0 8) = dm from cpy_back (fun x h9 => hDE.2 x (by omega)) (fun x h9 => hD.2 x (by omega))] at G
      refine lv_iconst (v := (-1)) hx hb d_TD_close_56 (by decide) ?_
      exact z_ret X hrt hlk G (rfl) (Or.inr (Or.inl ⟨h7, hE, rfl, _, rfl⟩)) d_TD_close_57
  · skip
    refine lv_iconst (v := (-1)) hx hb d_TD_close_10 (by decide) ?_
    exact z_ret X hrt hlk G (rfl) (Or.inl ⟨h7, rfl, rfl⟩) d_TD_close_11
set_option maxHeartbeats 4000000 in
set_option maxRecDepth 100000 in
theorem c_push (l : Launch) (D : va_G) (cI : ClassId) (q : Nat → Nat) (cnt lv p : Nat) (B : Bk) (mt dm db od om dr br un : Nat → Int32) (U V : Prop) (vi fa so : Int32) (hc8 : cnt ≤ 8) (hn16 : B.1 ≤ 16) (hlv : lv ≤ 10) : MI l y_TD_push b_TD_push 1 .int 2 D cI [.ref (q 0)] [((q 0), .inr (0, [.ref (q 1), .ref (q 2), .ref (q 3), .ref (q 10), .ref (q 13), .int (nI cnt)])), ((q 1), .inl (cI, 8, .inl dm)), ((q 2), .inl (cI, 8, .inl db)), ((q 3), .inr (2, [.ref (q 4), .int (nI (B.1)), .ref (q 5), .ref (q 6), .ref (q 7)])), ((q 4), .inr (1, [.ref (q 8), .ref (q 9)])), ((q 5), .inl (cI, 16, .inl B.kd)), ((q 6), .inl (cI, 48, .inl B.mb)), ((q 7), .inl (cI, 16, .inl B.nu)), ((q 8), .inl (cI, 144, .inl mt)), ((q 9), .inl (cI, 4, .inl B.sz)), ((q 10), .inr (3, [.int (nI lv), .ref (q 11), .ref (q 12)])), ((q 11), .inl (cI, 80, .inl od)), ((q 12), .inl (cI, 10, .inl om)), ((q 13), .inr (4, [.int (bP (U)), .int (nI p - 1), .int vi, .int fa, .int so, .ref (q 14), .ref (q 15), .ref (q 16), .int (bP (V))])), ((q 14), .inl (cI, 80, .inl dr)), ((q 15), .inl (cI, 9, .inl br)), ((q 16), .inl (cI, 9, .inl un))] (fun r u => ((¬ U ∧ lv ≠ 10) ∧ r = nI (lv + 1) ∧ u = [((q 0), .inr (0, [.ref (q 1), .ref (q 2), .ref (q 3), .ref (q 10), .ref (q 13), .int (nI cnt)])), ((q 1), .inl (cI, 8, .inl dm)), ((q 2), .inl (cI, 8, .inl db)), ((q 3), .inr (2, [.ref (q 4), .int (nI (B.1)), .ref (q 5), .ref (q 6), .ref (q 7)])), ((q 4), .inr (1, [.ref (q 8), .ref (q 9)])), ((q 5), .inl (cI, 16, .inl B.kd)), ((q 6), .inl (cI, 48, .inl B.mb)), ((q 7), .inl (cI, 16, .inl B.nu)), ((q 8), .inl (cI, 144, .inl mt)), ((q 9), .inl (cI, 4, .inl B.sz)), ((q 10), .inr (3, [.int (nI (lv + 1)), .ref (q 11), .ref (q 12)])), ((q 11), .inl (cI, 80, .inl (va_cpy dm od 0 (lv * 8) 8))), ((q 12), .inl (cI, 10, .inl (upd om lv (nI B.1)))), ((q 13), .inr (4, [.int (bP (U)), .int (nI p - 1), .int vi, .int fa, .int so, .ref (q 14), .ref (q 15), .ref (q 16), .int (bP (V))])), ((q 14), .inl (cI, 80, .inl dr)), ((q 15), .inl (cI, 9, .inl br)), ((q 16), .inl (cI, 9, .inl un))]) ∨ (¬ (¬ U ∧ lv ≠ 10) ∧ r = -1 ∧ u = [((q 0), .inr (0, [.ref (q 1), .ref (q 2), .ref (q 3), .ref (q 10), .ref (q 13), .int (nI cnt)])), ((q 1), .inl (cI, 8, .inl dm)), ((q 2), .inl (cI, 8, .inl db)), ((q 3), .inr (2, [.ref (q 4), .int (nI (B.1)), .ref (q 5), .ref (q 6), .ref (q 7)])), ((q 4), .inr (1, [.ref (q 8), .ref (q 9)])), ((q 5), .inl (cI, 16, .inl B.kd)), ((q 6), .inl (cI, 48, .inl B.mb)), ((q 7), .inl (cI, 16, .inl B.nu)), ((q 8), .inl (cI, 144, .inl mt)), ((q 9), .inl (cI, 4, .inl B.sz)), ((q 10), .inr (3, [.int (nI lv), .ref (q 11), .ref (q 12)])), ((q 11), .inl (cI, 80, .inl od)), ((q 12), .inl (cI, 10, .inl om)), ((q 13), .inr (4, [.int (bP (U)), .int (nI p - 1), .int vi, .int fa, .int so, .ref (q 14), .ref (q 15), .ref (q 16), .int (bP (V))])), ((q 14), .inl (cI, 80, .inl dr)), ((q 15), .inl (cI, 9, .inl br)), ((q 16), .inl (cI, 9, .inl un))])) := by
  refine MI.of (by decide) (Nat.le_of_ble_eq_true rfl) ?_
  intro zp ze zs zm zb zt zc ls A X hrt hlk G hl
  have hx := X.1
  have hb := X.2.1
  have hl : lv_has ls 1 [(0, .ref (q 0))] := hl
  refine lv_aload_n hx hb d_TD_push_0 rfl (lv_at hl 0 rfl) ?_
  refine gf_TD_33 X G 0 rfl rfl d_TD_push_1 ?_
  refine gf_TD_82 X G 13 rfl rfl d_TD_push_4 ?_
  refine zb_ne hx hb d_TD_push_7 rfl (fun h7 => ?_) (fun h7 => ?_)
  · skip
    refine lv_iconst (v := (-1)) hx hb d_TD_push_22 (by decide) ?_
    exact z_ret X hrt hlk G (rfl) (Or.inr ⟨by first | exact fun h9 => h9.1 h7 | exact fun h9 => absurd h9.2 (by omega), rfl, rfl⟩) d_TD_push_23
  · skip
    refine lv_aload_n hx hb d_TD_push_10 rfl (lv_at hl 0 rfl) ?_
    refine gf_TD_26 X G 0 rfl rfl d_TD_push_11 ?_
    refine gf_TD_110 X G 10 rfl rfl d_TD_push_14 ?_
    refine lv_bipush (v := (nI 10)) hx hb d_TD_push_17 (by decide) ?_
    refine zi_icmp_ne hx hb d_TD_push_19 rfl (nI_toInt (by omega) : (nI lv).toInt = ((lv : Nat) : Int)) (by decide : (nI 10).toInt = 10) (fun h19 => ?_) (fun h19 => ?_)
    · skip
      refine lv_aload_n hx hb d_TD_push_24 rfl (lv_at hl 0 rfl) ?_
      refine gf_TD_26 X G 0 rfl rfl d_TD_push_25 ?_
      refine lv_aload_n hx hb d_TD_push_28 rfl (lv_at hl 0 rfl) ?_
      refine gf_TD_9 X G 0 rfl rfl d_TD_push_29 ?_
      refine lv_aload_n hx hb d_TD_push_32 rfl (lv_at hl 0 rfl) ?_
      refine gf_TD_19 X G 0 rfl rfl d_TD_push_33 ?_
      refine gf_TD_113 X G 3 rfl rfl d_TD_push_36 ?_
      refine zV_W (wr := [((q 0), .inr (0, [.ref (q 1), .ref (q 2), .ref (q 3), .ref (q 10), .ref (q 13), .int (nI cnt)])), ((q 2), .inl (cI, 8, .inl db)), ((q 3), .inr (2, [.ref (q 4), .int (nI (B.1)), .ref (q 5), .ref (q 6), .ref (q 7)])), ((q 4), .inr (1, [.ref (q 8), .ref (q 9)])), ((q 5), .inl (cI, 16, .inl B.kd)), ((q 6), .inl (cI, 48, .inl B.mb)), ((q 7), .inl (cI, 16, .inl B.nu)), ((q 8), .inl (cI, 144, .inl mt)), ((q 9), .inl (cI, 4, .inl B.sz)), ((q 13), .inr (4, [.int (bP (U)), .int (nI p - 1), .int vi, .int fa, .int so, .ref (q 14), .ref (q 15), .ref (q 16), .int (bP (V))])), ((q 14), .inl (cI, 80, .inl dr)), ((q 15), .inl (cI, 9, .inl br)), ((q 16), .inl (cI, 9, .inl un))]) X G (c_save l D cI q lv B.1 od om dm (by omega)) lk_TD_116 [10, 11, 12, 1] rfl (by decide) [0, 2, 3, 4, 5, 6, 7, 8, 9, 13, 14, 15, 16] rfl (by decide) (by decide) 0 rfl rfl ⟨by decide, by decide⟩ ⟨Nat.zero_le _, Nat.zero_le _⟩ hl.1 rfl (Nat.le_of_ble_eq_true rfl) d_TD_push_39 (fun u H locs q39 G => ?_)
      subst q39
      have G : Gw D A zs.heap H locs [((q 0), .inr (0, [.ref (q 1), .ref (q 2), .ref (q 3), .ref (q 10), .ref (q 13), .int (nI cnt)])), ((q 1), .inl (cI, 8, .inl dm)), ((q 2), .inl (cI, 8, .inl db)), ((q 3), .inr (2, [.ref (q 4), .int (nI (B.1)), .ref (q 5), .ref (q 6), .ref (q 7)])), ((q 4), .inr (1, [.ref (q 8), .ref (q 9)])), ((q 5), .inl (cI, 16, .inl B.kd)), ((q 6), .inl (cI, 48, .inl B.mb)), ((q 7), .inl (cI, 16, .inl B.nu)), ((q 8), .inl (cI, 144, .inl mt)), ((q 9), .inl (cI, 4, .inl B.sz)), ((q 10), .inr (3, [.int (nI (lv + 1)), .ref (q 11), .ref (q 12)])), ((q 11), .inl (cI, 80, .inl (va_cpy dm od 0 (lv * 8) 8))), ((q 12), .inl (cI, 10, .inl (upd om lv (nI B.1)))), ((q 13), .inr (4, [.int (bP (U)), .int (nI p - 1), .int vi, .int fa, .int so, .ref (q 14), .ref (q 15), .ref (q 16), .int (bP (V))])), ((q 14), .inl (cI, 80, .inl dr)), ((q 15), .inl (cI, 9, .inl br)), ((q 16), .inl (cI, 9, .inl un))] := G.sub [0, 16, 1, 2, 3, 4, 5, 6, 7, 8, 13, 14, 15, 9, 10, 11, 12] (by decide) rfl
      refine lv_aload_n hx hb d_TD_push_42 rfl (lv_at hl 0 rfl) ?_
      refine gf_TD_26 X G 0 rfl rfl d_TD_push_43 ?_
      refine gf_TD_110 X G 10 rfl rfl d_TD_push_46 ?_
      exact z_ret X hrt hlk G (rfl) (Or.inl ⟨⟨h7, by omega⟩, rfl, rfl⟩) d_TD_push_49
    · skip
      refine lv_iconst (v := (-1)) hx hb d_TD_push_22 (by decide) ?_
      exact z_ret X hrt hlk G (rfl) (Or.inr ⟨by first | exact fun h9 => h9.1 h7 | exact fun h9 => absurd h9.2 (by omega), rfl, rfl⟩) d_TD_push_23
set_option maxHeartbeats 4000000 in
set_option maxRecDepth 100000 in
theorem c_pop (l : Launch) (D : va_G) (cI : ClassId) (q : Nat → Nat) (cnt lv p : Nat) (B : Bk) (mt dm db od om dr br un : Nat → Int32) (U V : Prop) (vi fa so : Int32) (hom : ∀ i, i < lv → ∃ n, n ≤ 16 ∧ om i = nI n) (hc8 : cnt ≤ 8) (hn16 : B.1 ≤ 16) (hlv : lv ≤ 10) : MI l y_TD_pop b_TD_pop 1 .int 2 D cI [.ref (q 0)] [((q 0), .inr (0, [.ref (q 1), .ref (q 2), .ref (q 3), .ref (q 10), .ref (q 13), .int (nI cnt)])), ((q 1), .inl (cI, 8, .inl dm)), ((q 2), .inl (cI, 8, .inl db)), ((q 3), .inr (2, [.ref (q 4), .int (nI (B.1)), .ref (q 5), .ref (q 6), .ref (q 7)])), ((q 4), .inr (1, [.ref (q 8), .ref (q 9)])), ((q 5), .inl (cI, 16, .inl B.kd)), ((q 6), .inl (cI, 48, .inl B.mb)), ((q 7), .inl (cI, 16, .inl B.nu)), ((q 8), .inl (cI, 144, .inl mt)), ((q 9), .inl (cI, 4, .inl B.sz)), ((q 10), .inr (3, [.int (nI lv), .ref (q 11), .ref (q 12)])), ((q 11), .inl (cI, 80, .inl od)), ((q 12), .inl (cI, 10, .inl om)), ((q 13), .inr (4, [.int (bP (U)), .int (nI p - 1), .int vi, .int fa, .int so, .ref (q 14), .ref (q 15), .ref (q 16), .int (bP (V))])), ((q 14), .inl (cI, 80, .inl dr)), ((q 15), .inl (cI, 9, .inl br)), ((q 16), .inl (cI, 9, .inl un))] (fun r u => ((¬ U ∧ lv ≠ 0) ∧ ∃ l1 n1, lv = l1 + 1 ∧ n1 ≤ 16 ∧ om l1 = nI n1 ∧ r = nI l1 ∧ u = [((q 0), .inr (0, [.ref (q 1), .ref (q 2), .ref (q 3), .ref (q 10), .ref (q 13), .int (nI cnt)])), ((q 1), .inl (cI, 8, .inl (va_cpy od dm (l1 * 8) 0 8))), ((q 2), .inl (cI, 8, .inl db)), ((q 3), .inr (2, [.ref (q 4), .int (nI ((reB B n1).1)), .ref (q 5), .ref (q 6), .ref (q 7)])), ((q 4), .inr (1, [.ref (q 8), .ref (q 9)])), ((q 5), .inl (cI, 16, .inl ((reB B n1).kd))), ((q 6), .inl (cI, 48, .inl ((reB B n1).mb))), ((q 7), .inl (cI, 16, .inl ((reB B n1).nu))), ((q 8), .inl (cI, 144, .inl mt)), ((q 9), .inl (cI, 4, .inl ((reB B n1).sz))), ((q 10), .inr (3, [.int (nI l1), .ref (q 11), .ref (q 12)])), ((q 11), .inl (cI, 80, .inl od)), ((q 12), .inl (cI, 10, .inl om)), ((q 13), .inr (4, [.int (bP (U)), .int (nI p - 1), .int vi, .int fa, .int so, .ref (q 14), .ref (q 15), .ref (q 16), .int (bP (V))])), ((q 14), .inl (cI, 80, .inl dr)), ((q 15), .inl (cI, 9, .inl br)), ((q 16), .inl (cI, 9, .inl un))]) ∨ (¬ (¬ U ∧ lv ≠ 0) ∧ r = -1 ∧ u = [((q 0), .inr (0, [.ref (q 1), .ref (q 2), .ref (q 3), .ref (q 10), .ref (q 13), .int (nI cnt)])), ((q 1), .inl (cI, 8, .inl dm)), ((q 2), .inl (cI, 8, .inl db)), ((q 3), .inr (2, [.ref (q 4), .int (nI (B.1)), .ref (q 5), .ref (q 6), .ref (q 7)])), ((q 4), .inr (1, [.ref (q 8), .ref (q 9)])), ((q 5), .inl (cI, 16, .inl B.kd)), ((q 6), .inl (cI, 48, .inl B.mb)), ((q 7), .inl (cI, 16, .inl B.nu)), ((q 8), .inl (cI, 144, .inl mt)), ((q 9), .inl (cI, 4, .inl B.sz)), ((q 10), .inr (3, [.int (nI lv), .ref (q 11), .ref (q 12)])), ((q 11), .inl (cI, 80, .inl od)), ((q 12), .inl (cI, 10, .inl om)), ((q 13), .inr (4, [.int (bP (U)), .int (nI p - 1), .int vi, .int fa, .int so, .ref (q 14), .ref (q 15), .ref (q 16), .int (bP (V))])), ((q 14), .inl (cI, 80, .inl dr)), ((q 15), .inl (cI, 9, .inl br)), ((q 16), .inl (cI, 9, .inl un))])) := by
  refine MI.of (by decide) (Nat.le_of_ble_eq_true rfl) ?_
  intro zp ze zs zm zb zt zc ls A X hrt hlk G hl
  have hx := X.1
  have hb := X.2.1
  have hl : lv_has ls 1 [(0, .ref (q 0))] := hl
  refine lv_aload_n hx hb d_TD_pop_0 rfl (lv_at hl 0 rfl) ?_
  refine gf_TD_33 X G 0 rfl rfl d_TD_pop_1 ?_
  refine gf_TD_82 X G 13 rfl rfl d_TD_pop_4 ?_
  refine zb_ne hx hb d_TD_pop_7 rfl (fun h7 => ?_) (fun h7 => ?_)
  · skip
    refine lv_iconst (v := (-1)) hx hb d_TD_pop_20 (by decide) ?_
    exact z_ret X hrt hlk G (rfl) (Or.inr ⟨by first | exact fun h9 => h9.1 h7 | exact fun h9 => absurd h9.2 (by omega), rfl, rfl⟩) d_TD_pop_21
  · skip
    refine lv_aload_n hx hb d_TD_pop_10 rfl (lv_at hl 0 rfl) ?_
    refine gf_TD_26 X G 0 rfl rfl d_TD_pop_11 ?_
    refine gf_TD_110 X G 10 rfl rfl d_TD_pop_14 ?_
    refine zi_if_ne hx hb d_TD_pop_17 rfl (nI_toInt (by omega) : (nI lv).toInt = ((lv : Nat) : Int)) (fun h17 => ?_) (fun h17 => ?_)
    · skip
      obtain ⟨l1, hl1⟩ : ∃ l1, lv = l1 + 1 := ⟨lv - 1, by omega⟩
      obtain ⟨n1, hn1, hom1⟩ := hom l1 (by omega)
      rw [hl1] at G
      refine lv_aload_n hx hb d_TD_pop_22 rfl (lv_at hl 0 rfl) ?_
      refine gf_TD_19 X G 0 rfl rfl d_TD_pop_23 ?_
      refine lv_aload_n hx hb d_TD_pop_26 rfl (lv_at hl 0 rfl) ?_
      refine gf_TD_26 X G 0 rfl rfl d_TD_pop_27 ?_
      refine lv_aload_n hx hb d_TD_pop_30 rfl (lv_at hl 0 rfl) ?_
      refine gf_TD_9 X G 0 rfl rfl d_TD_pop_31 ?_
      refine zV_I (wr := [((q 0), .inr (0, [.ref (q 1), .ref (q 2), .ref (q 3), .ref (q 10), .ref (q 13), .int (nI cnt)])), ((q 2), .inl (cI, 8, .inl db)), ((q 3), .inr (2, [.ref (q 4), .int (nI (B.1)), .ref (q 5), .ref (q 6), .ref (q 7)])), ((q 4), .inr (1, [.ref (q 8), .ref (q 9)])), ((q 5), .inl (cI, 16, .inl B.kd)), ((q 6), .inl (cI, 48, .inl B.mb)), ((q 7), .inl (cI, 16, .inl B.nu)), ((q 8), .inl (cI, 144, .inl mt)), ((q 9), .inl (cI, 4, .inl B.sz)), ((q 13), .inr (4, [.int (bP (U)), .int (nI p - 1), .int vi, .int fa, .int so, .ref (q 14), .ref (q 15), .ref (q 16), .int (bP (V))])), ((q 14), .inl (cI, 80, .inl dr)), ((q 15), .inl (cI, 9, .inl br)), ((q 16), .inl (cI, 9, .inl un))]) X G (c_restore l D cI q l1 od om dm (by omega)) lk_TD_120 [10, 11, 12, 1] rfl (by decide) [0, 2, 3, 4, 5, 6, 7, 8, 9, 13, 14, 15, 16] rfl (by decide) (by decide) 0 rfl rfl ⟨by decide, by decide⟩ ⟨Nat.zero_le _, Nat.zero_le _⟩ hl.1 rfl (Nat.le_of_ble_eq_true rfl) d_TD_pop_34 (fun r34 u H locs q34 G => ?_)
      obtain ⟨q34, rfl⟩ := q34
      have G : Gw D A zs.heap H locs [((q 0), .inr (0, [.ref (q 1), .ref (q 2), .ref (q 3), .ref (q 10), .ref (q 13), .int (nI cnt)])), ((q 1), .inl (cI, 8, .inl (va_cpy od dm (l1 * 8) 0 8))), ((q 2), .inl (cI, 8, .inl db)), ((q 3), .inr (2, [.ref (q 4), .int (nI (B.1)), .ref (q 5), .ref (q 6), .ref (q 7)])), ((q 4), .inr (1, [.ref (q 8), .ref (q 9)])), ((q 5), .inl (cI, 16, .inl B.kd)), ((q 6), .inl (cI, 48, .inl B.mb)), ((q 7), .inl (cI, 16, .inl B.nu)), ((q 8), .inl (cI, 144, .inl mt)), ((q 9), .inl (cI, 4, .inl B.sz)), ((q 10), .inr (3, [.int (nI l1), .ref (q 11), .ref (q 12)])), ((q 11), .inl (cI, 80, .inl od)), ((q 12), .inl (cI, 10, .inl om)), ((q 13), .inr (4, [.int (bP (U)), .int (nI p - 1), .int vi, .int fa, .int so, .ref (q 14), .ref (q 15), .ref (q 16), .int (bP (V))])), ((q 14), .inl (cI, 80, .inl dr)), ((q 15), .inl (cI, 9, .inl br)), ((q 16), .inl (cI, 9, .inl un))] := G.sub [0, 16, 1, 2, 3, 4, 5, 6, 7, 8, 13, 14, 15, 9, 10, 11, 12] (by decide) rfl
      refine z_top (nI n1) (q34.trans hom1) ?_
      refine pf_TD_113 X G 3 rfl (rfl) (rfl) (Nat.le_of_ble_eq_true rfl) d_TD_pop_37 (fun H locs G => ?_)
      have G : Gw D A zs.heap H locs [((q 0), .inr (0, [.ref (q 1), .ref (q 2), .ref (q 3), .ref (q 10), .ref (q 13), .int (nI cnt)])), ((q 1), .inl (cI, 8, .inl (va_cpy od dm (l1 * 8) 0 8))), ((q 2), .inl (cI, 8, .inl db)), ((q 3), .inr (2, [.ref (q 4), .int (nI n1), .ref (q 5), .ref (q 6), .ref (q 7)])), ((q 4), .inr (1, [.ref (q 8), .ref (q 9)])), ((q 5), .inl (cI, 16, .inl B.kd)), ((q 6), .inl (cI, 48, .inl B.mb)), ((q 7), .inl (cI, 16, .inl B.nu)), ((q 8), .inl (cI, 144, .inl mt)), ((q 9), .inl (cI, 4, .inl B.sz)), ((q 10), .inr (3, [.int (nI l1), .ref (q 11), .ref (q 12)])), ((q 11), .inl (cI, 80, .inl od)), ((q 12), .inl (cI, 10, .inl om)), ((q 13), .inr (4, [.int (bP (U)), .int (nI p - 1), .int vi, .int fa, .int so, .ref (q 14), .ref (q 15), .ref (q 16), .int (bP (V))])), ((q 14), .inl (cI, 80, .inl dr)), ((q 15), .inl (cI, 9, .inl br)), ((q 16), .inl (cI, 9, .inl un))] := G
      refine lv_aload_n hx hb d_TD_pop_40 rfl (lv_at hl 0 rfl) ?_
      refine gf_TD_26 X G 0 rfl rfl d_TD_pop_41 ?_
      refine gf_TD_110 X G 10 rfl rfl d_TD_pop_44 ?_
      exact z_ret X hrt hlk G (rfl) (Or.inl ⟨⟨h7, by omega⟩, l1, n1, hl1, hn1, hom1, rfl, rfl⟩) d_TD_pop_47
    · skip
      refine lv_iconst (v := (-1)) hx hb d_TD_pop_20 (by decide) ?_
      exact z_ret X hrt hlk G (rfl) (Or.inr ⟨by first | exact fun h9 => h9.1 h7 | exact fun h9 => absurd h9.2 (by omega), rfl, rfl⟩) d_TD_pop_21
set_option maxHeartbeats 4000000 in
set_option maxRecDepth 100000 in
theorem c_search (l : Launch) (D : va_G) (cI : ClassId) (q : Nat → Nat) (cnt lv p : Nat) (B : Bk) (mt dm db od om dr br un : Nat → Int32) (U V : Prop) (vi fa so : Int32) : MI l y_TD_search b_TD_search 1 .boolean 3 D cI [.ref (q 0)] [((q 0), .inr (0, [.ref (q 1), .ref (q 2), .ref (q 3), .ref (q 10), .ref (q 13), .int (nI cnt)])), ((q 1), .inl (cI, 8, .inl dm)), ((q 2), .inl (cI, 8, .inl db)), ((q 3), .inr (2, [.ref (q 4), .int (nI (B.1)), .ref (q 5), .ref (q 6), .ref (q 7)])), ((q 4), .inr (1, [.ref (q 8), .ref (q 9)])), ((q 5), .inl (cI, 16, .inl B.kd)), ((q 6), .inl (cI, 48, .inl B.mb)), ((q 7), .inl (cI, 16, .inl B.nu)), ((q 8), .inl (cI, 144, .inl mt)), ((q 9), .inl (cI, 4, .inl B.sz)), ((q 10), .inr (3, [.int (nI lv), .ref (q 11), .ref (q 12)])), ((q 11), .inl (cI, 80, .inl od)), ((q 12), .inl (cI, 10, .inl om)), ((q 13), .inr (4, [.int (bP (U)), .int (nI p - 1), .int vi, .int fa, .int so, .ref (q 14), .ref (q 15), .ref (q 16), .int (bP (V))])), ((q 14), .inl (cI, 80, .inl dr)), ((q 15), .inl (cI, 9, .inl br)), ((q 16), .inl (cI, 9, .inl un))] (fun r u => (U ∧ r = 0 ∧ u = [((q 0), .inr (0, [.ref (q 1), .ref (q 2), .ref (q 3), .ref (q 10), .ref (q 13), .int (nI cnt)])), ((q 1), .inl (cI, 8, .inl dm)), ((q 2), .inl (cI, 8, .inl db)), ((q 3), .inr (2, [.ref (q 4), .int (nI (B.1)), .ref (q 5), .ref (q 6), .ref (q 7)])), ((q 4), .inr (1, [.ref (q 8), .ref (q 9)])), ((q 5), .inl (cI, 16, .inl B.kd)), ((q 6), .inl (cI, 48, .inl B.mb)), ((q 7), .inl (cI, 16, .inl B.nu)), ((q 8), .inl (cI, 144, .inl mt)), ((q 9), .inl (cI, 4, .inl B.sz)), ((q 10), .inr (3, [.int (nI lv), .ref (q 11), .ref (q 12)])), ((q 11), .inl (cI, 80, .inl od)), ((q 12), .inl (cI, 10, .inl om)), ((q 13), .inr (4, [.int (bP (U)), .int (nI p - 1), .int vi, .int fa, .int so, .ref (q 14), .ref (q 15), .ref (q 16), .int (bP (V))])), ((q 14), .inl (cI, 80, .inl dr)), ((q 15), .inl (cI, 9, .inl br)), ((q 16), .inl (cI, 9, .inl un))]) ∨ (¬ U ∧ r = 1 ∧ u = [((q 0), .inr (0, [.ref (q 1), .ref (q 2), .ref (q 3), .ref (q 10), .ref (q 13), .int (nI cnt)])), ((q 1), .inl (cI, 8, .inl dm)), ((q 2), .inl (cI, 8, .inl db)), ((q 3), .inr (2, [.ref (q 4), .int (nI (B.1)), .ref (q 5), .ref (q 6), .ref (q 7)])), ((q 4), .inr (1, [.ref (q 8), .ref (q 9)])), ((q 5), .inl (cI, 16, .inl B.kd)), ((q 6), .inl (cI, 48, .inl B.mb)), ((q 7), .inl (cI, 16, .inl B.nu)), ((q 8), .inl (cI, 144, .inl mt)), ((q 9), .inl (cI, 4, .inl B.sz)), ((q 10), .inr (3, [.int (nI lv), .ref (q 11), .ref (q 12)])), ((q 11), .inl (cI, 80, .inl od)), ((q 12), .inl (cI, 10, .inl om)), ((q 13), .inr (4, [.int (nI 1), .int (nI 0 - 1), .int (nI 0), .int (nI 0), .int (nI 0), .ref (q 14), .ref (q 15), .ref (q 16), .int (nI 0)])), ((q 14), .inl (cI, 80, .inl (va_cpy dm dr 0 (0 * 8) 8))), ((q 15), .inl (cI, 9, .inl br)), ((q 16), .inl (cI, 9, .inl un))])) := by
  refine MI.of (by decide) (Nat.le_of_ble_eq_true rfl) ?_
  intro zp ze zs zm zb zt zc ls A X hrt hlk G hl
  have hx := X.1
  have hb := X.2.1
  have hl : lv_has ls 1 [(0, .ref (q 0))] := hl
  refine lv_aload_n hx hb d_TD_search_0 rfl (lv_at hl 0 rfl) ?_
  refine gf_TD_33 X G 0 rfl rfl d_TD_search_1 ?_
  refine gf_TD_82 X G 13 rfl rfl d_TD_search_4 ?_
  refine zb_eq hx hb d_TD_search_7 rfl (fun h7 => ?_) (fun h7 => ?_)
  · skip
    refine lv_aload_n hx hb d_TD_search_12 rfl (lv_at hl 0 rfl) ?_
    refine gf_TD_33 X G 0 rfl rfl d_TD_search_13 ?_
    refine lv_aload_n hx hb d_TD_search_16 rfl (lv_at hl 0 rfl) ?_
    refine gf_TD_9 X G 0 rfl rfl d_TD_search_17 ?_
    refine zV_W (wr := [((q 0), .inr (0, [.ref (q 1), .ref (q 2), .ref (q 3), .ref (q 10), .ref (q 13), .int (nI cnt)])), ((q 2), .inl (cI, 8, .inl db)), ((q 3), .inr (2, [.ref (q 4), .int (nI (B.1)), .ref (q 5), .ref (q 6), .ref (q 7)])), ((q 4), .inr (1, [.ref (q 8), .ref (q 9)])), ((q 5), .inl (cI, 16, .inl B.kd)), ((q 6), .inl (cI, 48, .inl B.mb)), ((q 7), .inl (cI, 16, .inl B.nu)), ((q 8), .inl (cI, 144, .inl mt)), ((q 9), .inl (cI, 4, .inl B.sz)), ((q 10), .inr (3, [.int (nI lv), .ref (q 11), .ref (q 12)])), ((q 11), .inl (cI, 80, .inl od)), ((q 12), .inl (cI, 10, .inl om)), ((q 15), .inl (cI, 9, .inl br)), ((q 16), .inl (cI, 9, .inl un))]) X G (c_begin l D cI q (bP U) vi fa so (bP V) p dr dm) lk_TD_123 [13, 14, 1] rfl (by decide) [0, 2, 3, 4, 5, 6, 7, 8, 9, 10, 11, 12, 15, 16] rfl (by decide) (by decide) 0 rfl rfl ⟨by decide, by decide⟩ ⟨Nat.zero_le _, Nat.zero_le _⟩ hl.1 rfl (Nat.le_of_ble_eq_true rfl) d_TD_search_20 (fun u H locs q20 G => ?_)
    subst q20
    have G : Gw D A zs.heap H locs [((q 0), .inr (0, [.ref (q 1), .ref (q 2), .ref (q 3), .ref (q 10), .ref (q 13), .int (nI cnt)])), ((q 1), .inl (cI, 8, .inl dm)), ((q 2), .inl (cI, 8, .inl db)), ((q 3), .inr (2, [.ref (q 4), .int (nI (B.1)), .ref (q 5), .ref (q 6), .ref (q 7)])), ((q 4), .inr (1, [.ref (q 8), .ref (q 9)])), ((q 5), .inl (cI, 16, .inl B.kd)), ((q 6), .inl (cI, 48, .inl B.mb)), ((q 7), .inl (cI, 16, .inl B.nu)), ((q 8), .inl (cI, 144, .inl mt)), ((q 9), .inl (cI, 4, .inl B.sz)), ((q 10), .inr (3, [.int (nI lv), .ref (q 11), .ref (q 12)])), ((q 11), .inl (cI, 80, .inl od)), ((q 12), .inl (cI, 10, .inl om)), ((q 13), .inr (4, [.int (nI 1), .int (nI 0 - 1), .int (nI 0), .int (nI 0), .int (nI 0), .ref (q 14), .ref (q 15), .ref (q 16), .int (nI 0)])), ((q 14), .inl (cI, 80, .inl (va_cpy dm dr 0 (0 * 8) 8))), ((q 15), .inl (cI, 9, .inl br)), ((q 16), .inl (cI, 9, .inl un))] := G.sub [0, 16, 1, 2, 3, 4, 5, 6, 7, 8, 9, 10, 11, 14, 15, 12, 13] (by decide) rfl
    refine lv_iconst (v := (nI 1)) hx hb d_TD_search_23 (by decide) ?_
    exact z_ret X hrt hlk G (rfl) (Or.inr ⟨h7, rfl, rfl⟩) d_TD_search_24
  · skip
    refine lv_iconst (v := (nI 0)) hx hb d_TD_search_10 (by decide) ?_
    exact z_ret X hrt hlk G (rfl) (Or.inl ⟨h7, rfl, rfl⟩) d_TD_search_11
set_option maxHeartbeats 4000000 in
set_option maxRecDepth 100000 in
theorem c_stop (l : Launch) (D : va_G) (cI : ClassId) (q : Nat → Nat) (cnt lv p : Nat) (B : Bk) (mt dm db od om dr br un : Nat → Int32) (U V : Prop) (vi fa so : Int32) : MI l y_TD_stop b_TD_stop 1 .boolean 3 D cI [.ref (q 0)] [((q 0), .inr (0, [.ref (q 1), .ref (q 2), .ref (q 3), .ref (q 10), .ref (q 13), .int (nI cnt)])), ((q 1), .inl (cI, 8, .inl dm)), ((q 2), .inl (cI, 8, .inl db)), ((q 3), .inr (2, [.ref (q 4), .int (nI (B.1)), .ref (q 5), .ref (q 6), .ref (q 7)])), ((q 4), .inr (1, [.ref (q 8), .ref (q 9)])), ((q 5), .inl (cI, 16, .inl B.kd)), ((q 6), .inl (cI, 48, .inl B.mb)), ((q 7), .inl (cI, 16, .inl B.nu)), ((q 8), .inl (cI, 144, .inl mt)), ((q 9), .inl (cI, 4, .inl B.sz)), ((q 10), .inr (3, [.int (nI lv), .ref (q 11), .ref (q 12)])), ((q 11), .inl (cI, 80, .inl od)), ((q 12), .inl (cI, 10, .inl om)), ((q 13), .inr (4, [.int (bP (U)), .int (nI p - 1), .int vi, .int fa, .int so, .ref (q 14), .ref (q 15), .ref (q 16), .int (bP (V))])), ((q 14), .inl (cI, 80, .inl dr)), ((q 15), .inl (cI, 9, .inl br)), ((q 16), .inl (cI, 9, .inl un))] (fun r u => (¬ U ∧ r = 0 ∧ u = [((q 0), .inr (0, [.ref (q 1), .ref (q 2), .ref (q 3), .ref (q 10), .ref (q 13), .int (nI cnt)])), ((q 1), .inl (cI, 8, .inl dm)), ((q 2), .inl (cI, 8, .inl db)), ((q 3), .inr (2, [.ref (q 4), .int (nI (B.1)), .ref (q 5), .ref (q 6), .ref (q 7)])), ((q 4), .inr (1, [.ref (q 8), .ref (q 9)])), ((q 5), .inl (cI, 16, .inl B.kd)), ((q 6), .inl (cI, 48, .inl B.mb)), ((q 7), .inl (cI, 16, .inl B.nu)), ((q 8), .inl (cI, 144, .inl mt)), ((q 9), .inl (cI, 4, .inl B.sz)), ((q 10), .inr (3, [.int (nI lv), .ref (q 11), .ref (q 12)])), ((q 11), .inl (cI, 80, .inl od)), ((q 12), .inl (cI, 10, .inl om)), ((q 13), .inr (4, [.int (bP (U)), .int (nI p - 1), .int vi, .int fa, .int so, .ref (q 14), .ref (q 15), .ref (q 16), .int (bP (V))])), ((q 14), .inl (cI, 80, .inl dr)), ((q 15), .inl (cI, 9, .inl br)), ((q 16), .inl (cI, 9, .inl un))]) ∨ (U ∧ r = 1 ∧ u = [((q 0), .inr (0, [.ref (q 1), .ref (q 2), .ref (q 3), .ref (q 10), .ref (q 13), .int (nI cnt)])), ((q 1), .inl (cI, 8, .inl (va_cpy dr dm (0 * 8) 0 8))), ((q 2), .inl (cI, 8, .inl db)), ((q 3), .inr (2, [.ref (q 4), .int (nI (B.1)), .ref (q 5), .ref (q 6), .ref (q 7)])), ((q 4), .inr (1, [.ref (q 8), .ref (q 9)])), ((q 5), .inl (cI, 16, .inl B.kd)), ((q 6), .inl (cI, 48, .inl B.mb)), ((q 7), .inl (cI, 16, .inl B.nu)), ((q 8), .inl (cI, 144, .inl mt)), ((q 9), .inl (cI, 4, .inl B.sz)), ((q 10), .inr (3, [.int (nI lv), .ref (q 11), .ref (q 12)])), ((q 11), .inl (cI, 80, .inl od)), ((q 12), .inl (cI, 10, .inl om)), ((q 13), .inr (4, [.int (nI 0), .int (nI 0 - 1), .int vi, .int fa, .int so, .ref (q 14), .ref (q 15), .ref (q 16), .int (bP (V))])), ((q 14), .inl (cI, 80, .inl dr)), ((q 15), .inl (cI, 9, .inl br)), ((q 16), .inl (cI, 9, .inl un))])) := by
  refine MI.of (by decide) (Nat.le_of_ble_eq_true rfl) ?_
  intro zp ze zs zm zb zt zc ls A X hrt hlk G hl
  have hx := X.1
  have hb := X.2.1
  have hl : lv_has ls 1 [(0, .ref (q 0))] := hl
  refine lv_aload_n hx hb d_TD_stop_0 rfl (lv_at hl 0 rfl) ?_
  refine gf_TD_33 X G 0 rfl rfl d_TD_stop_1 ?_
  refine gf_TD_82 X G 13 rfl rfl d_TD_stop_4 ?_
  refine zb_ne hx hb d_TD_stop_7 rfl (fun h7 => ?_) (fun h7 => ?_)
  · skip
    refine lv_aload_n hx hb d_TD_stop_12 rfl (lv_at hl 0 rfl) ?_
    refine gf_TD_33 X G 0 rfl rfl d_TD_stop_13 ?_
    refine lv_aload_n hx hb d_TD_stop_16 rfl (lv_at hl 0 rfl) ?_
    refine gf_TD_9 X G 0 rfl rfl d_TD_stop_17 ?_
    refine zV_W (wr := [((q 0), .inr (0, [.ref (q 1), .ref (q 2), .ref (q 3), .ref (q 10), .ref (q 13), .int (nI cnt)])), ((q 2), .inl (cI, 8, .inl db)), ((q 3), .inr (2, [.ref (q 4), .int (nI (B.1)), .ref (q 5), .ref (q 6), .ref (q 7)])), ((q 4), .inr (1, [.ref (q 8), .ref (q 9)])), ((q 5), .inl (cI, 16, .inl B.kd)), ((q 6), .inl (cI, 48, .inl B.mb)), ((q 7), .inl (cI, 16, .inl B.nu)), ((q 8), .inl (cI, 144, .inl mt)), ((q 9), .inl (cI, 4, .inl B.sz)), ((q 10), .inr (3, [.int (nI lv), .ref (q 11), .ref (q 12)])), ((q 11), .inl (cI, 80, .inl od)), ((q 12), .inl (cI, 10, .inl om)), ((q 15), .inl (cI, 9, .inl br)), ((q 16), .inl (cI, 9, .inl un))]) X G (c_end l D cI q (bP U) vi fa so (bP V) p dr dm) lk_TD_130 [13, 14, 1] rfl (by decide) [0, 2, 3, 4, 5, 6, 7, 8, 9, 10, 11, 12, 15, 16] rfl (by decide) (by decide) 0 rfl rfl ⟨by decide, by decide⟩ ⟨Nat.zero_le _, Nat.zero_le _⟩ hl.1 rfl (Nat.le_of_ble_eq_true rfl) d_TD_stop_20 (fun u H locs q20 G => ?_)
    subst q20
    have G : Gw D A zs.heap H locs [((q 0), .inr (0, [.ref (q 1), .ref (q 2), .ref (q 3), .ref (q 10), .ref (q 13), .int (nI cnt)])), ((q 1), .inl (cI, 8, .inl (va_cpy dr dm (0 * 8) 0 8))), ((q 2), .inl (cI, 8, .inl db)), ((q 3), .inr (2, [.ref (q 4), .int (nI (B.1)), .ref (q 5), .ref (q 6), .ref (q 7)])), ((q 4), .inr (1, [.ref (q 8), .ref (q 9)])), ((q 5), .inl (cI, 16, .inl B.kd)), ((q 6), .inl (cI, 48, .inl B.mb)), ((q 7), .inl (cI, 16, .inl B.nu)), ((q 8), .inl (cI, 144, .inl mt)), ((q 9), .inl (cI, 4, .inl B.sz)), ((q 10), .inr (3, [.int (nI lv), .ref (q 11), .ref (q 12)])), ((q 11), .inl (cI, 80, .inl od)), ((q 12), .inl (cI, 10, .inl om)), ((q 13), .inr (4, [.int (nI 0), .int (nI 0 - 1), .int vi, .int fa, .int so, .ref (q 14), .ref (q 15), .ref (q 16), .int (bP (V))])), ((q 14), .inl (cI, 80, .inl dr)), ((q 15), .inl (cI, 9, .inl br)), ((q 16), .inl (cI, 9, .inl un))] := G.sub [0, 16, 1, 2, 3, 4, 5, 6, 7, 8, 9, 10, 11, 14, 15, 12, 13] (by decide) rfl
    refine lv_iconst (v := (nI 1)) hx hb d_TD_stop_23 (by decide) ?_
    exact z_ret X hrt hlk G (rfl) (Or.inr ⟨h7, rfl, rfl⟩) d_TD_stop_24
  · skip
    refine lv_iconst (v := (nI 0)) hx hb d_TD_stop_10 (by decide) ?_
    exact z_ret X hrt hlk G (rfl) (Or.inl ⟨h7, rfl, rfl⟩) d_TD_stop_11
set_option maxHeartbeats 4000000 in
set_option maxRecDepth 100000 in
theorem c_domain (l : Launch) (D : va_G) (cI : ClassId) (q : Nat → Nat) (cnt lv p : Nat) (B : Bk) (mt dm db od om dr br un : Nat → Int32) (U V : Prop) (vi fa so : Int32) (x : Int32) (hc8 : cnt ≤ 8) (hn16 : B.1 ≤ 16) (hlv : lv ≤ 10) : MI l y_TD_domain b_TD_domain 2 .int 1 D cI [.ref (q 0), .int x] [((q 0), .inr (0, [.ref (q 1), .ref (q 2), .ref (q 3), .ref (q 10), .ref (q 13), .int (nI cnt)])), ((q 1), .inl (cI, 8, .inl dm)), ((q 2), .inl (cI, 8, .inl db)), ((q 3), .inr (2, [.ref (q 4), .int (nI (B.1)), .ref (q 5), .ref (q 6), .ref (q 7)])), ((q 4), .inr (1, [.ref (q 8), .ref (q 9)])), ((q 5), .inl (cI, 16, .inl B.kd)), ((q 6), .inl (cI, 48, .inl B.mb)), ((q 7), .inl (cI, 16, .inl B.nu)), ((q 8), .inl (cI, 144, .inl mt)), ((q 9), .inl (cI, 4, .inl B.sz)), ((q 10), .inr (3, [.int (nI lv), .ref (q 11), .ref (q 12)])), ((q 11), .inl (cI, 80, .inl od)), ((q 12), .inl (cI, 10, .inl om)), ((q 13), .inr (4, [.int (bP (U)), .int (nI p - 1), .int vi, .int fa, .int so, .ref (q 14), .ref (q 15), .ref (q 16), .int (bP (V))])), ((q 14), .inl (cI, 80, .inl dr)), ((q 15), .inl (cI, 9, .inl br)), ((q 16), .inl (cI, 9, .inl un))] (fun r u => ((∃ xx, xx < cnt ∧ x = nI xx ∧ r = dm xx) ∨ (¬ (0 ≤ x.toInt ∧ x.toInt < cnt) ∧ r = -1)) ∧ u = [((q 0), .inr (0, [.ref (q 1), .ref (q 2), .ref (q 3), .ref (q 10), .ref (q 13), .int (nI cnt)])), ((q 1), .inl (cI, 8, .inl dm)), ((q 2), .inl (cI, 8, .inl db)), ((q 3), .inr (2, [.ref (q 4), .int (nI (B.1)), .ref (q 5), .ref (q 6), .ref (q 7)])), ((q 4), .inr (1, [.ref (q 8), .ref (q 9)])), ((q 5), .inl (cI, 16, .inl B.kd)), ((q 6), .inl (cI, 48, .inl B.mb)), ((q 7), .inl (cI, 16, .inl B.nu)), ((q 8), .inl (cI, 144, .inl mt)), ((q 9), .inl (cI, 4, .inl B.sz)), ((q 10), .inr (3, [.int (nI lv), .ref (q 11), .ref (q 12)])), ((q 11), .inl (cI, 80, .inl od)), ((q 12), .inl (cI, 10, .inl om)), ((q 13), .inr (4, [.int (bP (U)), .int (nI p - 1), .int vi, .int fa, .int so, .ref (q 14), .ref (q 15), .ref (q 16), .int (bP (V))])), ((q 14), .inl (cI, 80, .inl dr)), ((q 15), .inl (cI, 9, .inl br)), ((q 16), .inl (cI, 9, .inl un))]) := by
  refine MI.of (by decide) (Nat.le_of_ble_eq_true rfl) ?_
  intro zp ze zs zm zb zt zc ls A X hrt hlk G hl
  have hx := X.1
  have hb := X.2.1
  have hl : lv_has ls 2 [(0, .ref (q 0)), (1, .int x)] := hl
  refine lv_aload_n hx hb d_TD_domain_0 rfl (lv_at hl 0 rfl) ?_
  refine lv_iload_n hx hb d_TD_domain_1 rfl (lv_at hl 1 rfl) ?_
  refine zV_R X G (c_isVariable l D cI q cnt x (by omega)) lk_TD_86 [0] rfl (by decide) 0 rfl rfl ⟨by decide, by decide⟩ ⟨Nat.zero_le _, Nat.zero_le _⟩ hl.1 rfl (Nat.le_of_ble_eq_true rfl) d_TD_domain_2 (fun H locs G => ?_)
  refine zb_eq hx hb d_TD_domain_5 rfl (fun h5 => ?_) (fun h5 => ?_)
  · skip
    refine lv_iconst (v := (-1)) hx hb d_TD_domain_17 (by decide) ?_
    exact z_ret X hrt hlk G (rfl) (⟨Or.inr ⟨h5, rfl⟩, rfl⟩) d_TD_domain_18
  · skip
    obtain ⟨xx, hxc, hxx⟩ := nI_ex (k := cnt) h5.1 h5.2 (by omega)
    rw [hxx] at hl
    refine lv_aload_n hx hb d_TD_domain_8 rfl (lv_at hl 0 rfl) ?_
    refine gf_TD_9 X G 0 rfl rfl d_TD_domain_9 ?_
    refine lv_iload_n hx hb d_TD_domain_12 rfl (lv_at hl 1 rfl) ?_
    refine z_iald X G 1 rfl xx (rfl) (by omega) (by decide) d_TD_domain_13 ?_
    refine lv_goto hx hb d_TD_domain_14 rfl ?_
    exact z_ret X hrt hlk G (rfl) (⟨Or.inl ⟨xx, hxc, hxx, rfl⟩, rfl⟩) d_TD_domain_18
set_option maxHeartbeats 4000000 in
set_option maxRecDepth 100000 in
theorem c_supports (l : Launch) (D : va_G) (cI : ClassId) (q : Nat → Nat) (cnt lv p : Nat) (B : Bk) (mt dm db od om dr br un : Nat → Int32) (U V : Prop) (vi fa so : Int32) (k x v : Int32) (hB : BOk cnt B) (hM : LOk B mt) (hD : DOk cnt dm) : MI l y_TD_supports b_TD_supports 5 .int 4 D cI [.ref (q 0), .int k, .int x, .int v] [((q 0), .inr (0, [.ref (q 1), .ref (q 2), .ref (q 3), .ref (q 10), .ref (q 13), .int (nI cnt)])), ((q 1), .inl (cI, 8, .inl dm)), ((q 2), .inl (cI, 8, .inl db)), ((q 3), .inr (2, [.ref (q 4), .int (nI (B.1)), .ref (q 5), .ref (q 6), .ref (q 7)])), ((q 4), .inr (1, [.ref (q 8), .ref (q 9)])), ((q 5), .inl (cI, 16, .inl B.kd)), ((q 6), .inl (cI, 48, .inl B.mb)), ((q 7), .inl (cI, 16, .inl B.nu)), ((q 8), .inl (cI, 144, .inl mt)), ((q 9), .inl (cI, 4, .inl B.sz)), ((q 10), .inr (3, [.int (nI lv), .ref (q 11), .ref (q 12)])), ((q 11), .inl (cI, 80, .inl od)), ((q 12), .inl (cI, 10, .inl om)), ((q 13), .inr (4, [.int (bP (U)), .int (nI p - 1), .int vi, .int fa, .int so, .ref (q 14), .ref (q 15), .ref (q 16), .int (bP (V))])), ((q 14), .inl (cI, 80, .inl dr)), ((q 15), .inl (cI, 9, .inl br)), ((q 16), .inl (cI, 9, .inl un))] (fun r u => ((∃ kk xx vv t, kk < B.1 ∧ xx < cnt ∧ vv < 16 ∧ k = nI kk ∧ x = nI xx ∧ v = nI vv ∧ t < wd B kk ∧ B.vx kk t = xx ∧ r = nI (ways B dm kk t vv)) ∨ (r = -1 ∧ ¬ ∃ kk xx vv t, kk < B.1 ∧ xx < cnt ∧ vv < 16 ∧ k = nI kk ∧ x = nI xx ∧ v = nI vv ∧ t < wd B kk ∧ B.vx kk t = xx)) ∧ u = [((q 0), .inr (0, [.ref (q 1), .ref (q 2), .ref (q 3), .ref (q 10), .ref (q 13), .int (nI cnt)])), ((q 1), .inl (cI, 8, .inl dm)), ((q 2), .inl (cI, 8, .inl db)), ((q 3), .inr (2, [.ref (q 4), .int (nI (B.1)), .ref (q 5), .ref (q 6), .ref (q 7)])), ((q 4), .inr (1, [.ref (q 8), .ref (q 9)])), ((q 5), .inl (cI, 16, .inl B.kd)), ((q 6), .inl (cI, 48, .inl B.mb)), ((q 7), .inl (cI, 16, .inl B.nu)), ((q 8), .inl (cI, 144, .inl mt)), ((q 9), .inl (cI, 4, .inl B.sz)), ((q 10), .inr (3, [.int (nI lv), .ref (q 11), .ref (q 12)])), ((q 11), .inl (cI, 80, .inl od)), ((q 12), .inl (cI, 10, .inl om)), ((q 13), .inr (4, [.int (bP (U)), .int (nI p - 1), .int vi, .int fa, .int so, .ref (q 14), .ref (q 15), .ref (q 16), .int (bP (V))])), ((q 14), .inl (cI, 80, .inl dr)), ((q 15), .inl (cI, 9, .inl br)), ((q 16), .inl (cI, 9, .inl un))]) := by
  refine MI.of (by decide) (Nat.le_of_ble_eq_true rfl) ?_
  intro zp ze zs zm zb zt zc ls A X hrt hlk G hl
  have hx := X.1
  have hb := X.2.1
  have hl : lv_has ls 5 [(0, .ref (q 0)), (1, .int k), (2, .int x), (3, .int v)] := hl
  have hc8 := hB.1
  have hn16 := hB.2.1
  refine lv_iload_n hx hb d_TD_supports_0 rfl (lv_at hl 1 rfl) ?_
  refine zi_if_lt hx hb d_TD_supports_1 rfl rfl (fun h1 => ?_) (fun h1 => ?_)
  · skip
    refine lv_iconst (v := (-1)) hx hb d_TD_supports_33 (by decide) ?_
    exact z_ret X hrt hlk G (rfl) (⟨Or.inr ⟨rfl, by rintro ⟨k9, x9, v9, t9, a1, a2, a3, e1, e2, e3, _⟩; have b1 := congrArg Int32.toInt e1; have b2 := congrArg Int32.toInt e2; have b3 := congrArg Int32.toInt e3; rw [nI_toInt (by omega)] at b1 b2 b3; first | omega | exact h20 (by omega)⟩, rfl⟩) d_TD_supports_34
  · skip
    refine lv_iload_n hx hb d_TD_supports_4 rfl (lv_at hl 1 rfl) ?_
    refine lv_aload_n hx hb d_TD_supports_5 rfl (lv_at hl 0 rfl) ?_
    refine gf_TD_19 X G 0 rfl rfl d_TD_supports_6 ?_
    refine gf_TD_113 X G 3 rfl rfl d_TD_supports_9 ?_
    refine zi_icmp_ge hx hb d_TD_supports_12 rfl rfl (nI_toInt (by omega) : (nI B.1).toInt = ((B.1 : Nat) : Int)) (fun h12 => ?_) (fun h12 => ?_)
    · skip
      refine lv_iconst (v := (-1)) hx hb d_TD_supports_33 (by decide) ?_
      exact z_ret X hrt hlk G (rfl) (⟨Or.inr ⟨rfl, by rintro ⟨k9, x9, v9, t9, a1, a2, a3, e1, e2, e3, _⟩; have b1 := congrArg Int32.toInt e1; have b2 := congrArg Int32.toInt e2; have b3 := congrArg Int32.toInt e3; rw [nI_toInt (by omega)] at b1 b2 b3; first | omega | exact h20 (by omega)⟩, rfl⟩) d_TD_supports_34
    · skip
      refine lv_aload_n hx hb d_TD_supports_15 rfl (lv_at hl 0 rfl) ?_
      refine lv_iload_n hx hb d_TD_supports_16 rfl (lv_at hl 2 rfl) ?_
      refine zV_R X G (c_isVariable l D cI q cnt x (by omega)) lk_TD_86 [0] rfl (by decide) 0 rfl rfl ⟨by decide, by decide⟩ ⟨Nat.zero_le _, Nat.zero_le _⟩ hl.1 rfl (Nat.le_of_ble_eq_true rfl) d_TD_supports_17 (fun H locs G => ?_)
      refine zb_eq hx hb d_TD_supports_20 rfl (fun h20 => ?_) (fun h20 => ?_)
      · skip
        refine lv_iconst (v := (-1)) hx hb d_TD_supports_33 (by decide) ?_
        exact z_ret X hrt hlk G (rfl) (⟨Or.inr ⟨rfl, by rintro ⟨k9, x9, v9, t9, a1, a2, a3, e1, e2, e3, _⟩; have b1 := congrArg Int32.toInt e1; have b2 := congrArg Int32.toInt e2; have b3 := congrArg Int32.toInt e3; rw [nI_toInt (by omega)] at b1 b2 b3; first | omega | exact h20 (by omega)⟩, rfl⟩) d_TD_supports_34
      · skip
        obtain ⟨xx, hxc, hxx⟩ := nI_ex (k := cnt) h20.1 h20.2 (by omega)
        refine lv_iload_n hx hb d_TD_supports_23 rfl (lv_at hl 3 rfl) ?_
        refine zi_if_lt hx hb d_TD_supports_24 rfl rfl (fun h24 => ?_) (fun h24 => ?_)
        · skip
          refine lv_iconst (v := (-1)) hx hb d_TD_supports_33 (by decide) ?_
          exact z_ret X hrt hlk G (rfl) (⟨Or.inr ⟨rfl, by rintro ⟨k9, x9, v9, t9, a1, a2, a3, e1, e2, e3, _⟩; have b1 := congrArg Int32.toInt e1; have b2 := congrArg Int32.toInt e2; have b3 := congrArg Int32.toInt e3; rw [nI_toInt (by omega)] at b1 b2 b3; first | omega | exact h20 (by omega)⟩, rfl⟩) d_TD_supports_34
        · skip
          refine lv_iload_n hx hb d_TD_supports_27 rfl (lv_at hl 3 rfl) ?_
          refine lv_bipush (v := (nI 16)) hx hb d_TD_supports_28 (by decide) ?_
          refine zi_icmp_lt hx hb d_TD_supports_30 rfl rfl (by decide : (nI 16).toInt = 16) (fun h30 => ?_) (fun h30 => ?_)
          · skip
            obtain ⟨kk, hkk, hkx⟩ := nI_ex (k := B.1) (v := k) (by omega) (by omega) (by omega)
            obtain ⟨vv, hvv, hvx⟩ := nI_ex (k := 16) (v := v) (by omega) (by omega) (by decide)
            rw [hkx, hxx, hvx] at hl
            refine lv_aload_n hx hb d_TD_supports_35 rfl (lv_at hl 0 rfl) ?_
            refine gf_TD_19 X G 0 rfl rfl d_TD_supports_36 ?_
            refine lv_iload_n hx hb d_TD_supports_39 rfl (lv_at hl 1 rfl) ?_
            refine lv_iload_n hx hb d_TD_supports_40 rfl (lv_at hl 2 rfl) ?_
            refine zV_P X G (c_placeOf l D cI q cnt B mt hB kk xx (by omega) (by omega)) lk_TD_137 [3, 4, 5, 6, 7, 8, 9] rfl (by decide) 0 rfl rfl ⟨by decide, by decide⟩ ⟨Nat.zero_le _, Nat.zero_le _⟩ hl.1 rfl (Nat.le_of_ble_eq_true rfl) d_TD_supports_41 (fun r41 H locs q41 G => ?_)
            refine lv_istore hx hb d_TD_supports_44 hl (by decide) rfl (fun ls hl => ?_)
            have hl : lv_has ls 5 [(4, .int r41), (0, .ref (q 0)), (1, .int (nI kk)), (2, .int (nI xx)), (3, .int (nI vv))] := hl
            refine lv_iload hx hb d_TD_supports_46 (lv_at hl 0 rfl) ?_
            refine zi_if_ge hx hb d_TD_supports_48 rfl rfl (fun h48 => ?_) (fun h48 => ?_)
            · skip
              obtain ⟨t, ht, hvt, hrt2⟩ : ∃ t, t < wd B kk ∧ B.vx kk t = xx ∧ r41 = nI t := by
                rcases q41 with h9 | h9
                · exact h9
                · rw [h9.1, nI_neg1] at h48; omega
              rw [hrt2] at hl
              have hw := wd_in B kk
              refine lv_aload_n hx hb d_TD_supports_55 rfl (lv_at hl 1 rfl) ?_
              refine gf_TD_19 X G 0 rfl rfl d_TD_supports_56 ?_
              refine lv_iload_n hx hb d_TD_supports_59 rfl (lv_at hl 2 rfl) ?_
              refine lv_iload hx hb d_TD_supports_60 (lv_at hl 0 rfl) ?_
              refine lv_iload_n hx hb d_TD_supports_62 rfl (lv_at hl 4 rfl) ?_
              refine lv_aload_n hx hb d_TD_supports_63 rfl (lv_at hl 1 rfl) ?_
              refine gf_TD_9 X G 0 rfl rfl d_TD_supports_64 ?_
              refine zV_R X G (c_ways l D cI q cnt B mt dm hB hM hD kk t vv (by omega) (by omega) (by omega)) lk_TD_141 [3, 4, 5, 6, 7, 8, 9, 1] rfl (by decide) 0 rfl rfl ⟨by decide, by decide⟩ ⟨Nat.zero_le _, Nat.zero_le _⟩ hl.1 rfl (Nat.le_of_ble_eq_true rfl) d_TD_supports_67 (fun H locs G => ?_)
              exact z_ret X hrt hlk G (rfl) (⟨Or.inl ⟨kk, xx, vv, t, hkk, hxc, hvv, hkx, hxx, hvx, ht, hvt, rfl⟩, rfl⟩) d_TD_supports_70
            · skip
              have hno : ∀ t, t < wd B kk → B.vx kk t ≠ xx := by
                rcases q41 with h9 | h9
                · obtain ⟨t, g1, _, g2⟩ := h9
                  have := wd_in B kk
                  rw [g2, nI_toInt (by omega)] at h48; omega
                · exact h9.2
              refine lv_iconst (v := (-1)) hx hb d_TD_supports_51 (by decide) ?_
              refine lv_goto hx hb d_TD_supports_52 rfl ?_
              exact z_ret X hrt hlk G (rfl) (⟨Or.inr ⟨rfl, by rintro ⟨k9, x9, v9, t9, a1, a2, a3, e1, e2, e3, a4, a5⟩; have b1 : k9 = kk := (nI_eq (by omega) (by omega)).mp (e1.symm.trans hkx); have b2 : x9 = xx := (nI_eq (by omega) (by omega)).mp (e2.symm.trans hxx); subst b1; subst b2; exact hno t9 a4 a5⟩, rfl⟩) d_TD_supports_70
          · skip
            refine lv_iconst (v := (-1)) hx hb d_TD_supports_33 (by decide) ?_
            exact z_ret X hrt hlk G (rfl) (⟨Or.inr ⟨rfl, by rintro ⟨k9, x9, v9, t9, a1, a2, a3, e1, e2, e3, _⟩; have b1 := congrArg Int32.toInt e1; have b2 := congrArg Int32.toInt e2; have b3 := congrArg Int32.toInt e3; rw [nI_toInt (by omega)] at b1 b2 b3; first | omega | exact h20 (by omega)⟩, rfl⟩) d_TD_supports_34
set_option maxHeartbeats 4000000 in
set_option maxRecDepth 100000 in
theorem c_rules (l : Launch) (D : va_G) (cI : ClassId) (q : Nat → Nat) (cnt lv p : Nat) (B : Bk) (mt dm db od om dr br un : Nat → Int32) (U V : Prop) (vi fa so : Int32) : MR l y_TD_rules b_TD_rules 1 .int 0 D cI [.ref (q 0)] [((q 0), .inr (0, [.ref (q 1), .ref (q 2), .ref (q 3), .ref (q 10), .ref (q 13), .int (nI cnt)])), ((q 1), .inl (cI, 8, .inl dm)), ((q 2), .inl (cI, 8, .inl db)), ((q 3), .inr (2, [.ref (q 4), .int (nI (B.1)), .ref (q 5), .ref (q 6), .ref (q 7)])), ((q 4), .inr (1, [.ref (q 8), .ref (q 9)])), ((q 5), .inl (cI, 16, .inl B.kd)), ((q 6), .inl (cI, 48, .inl B.mb)), ((q 7), .inl (cI, 16, .inl B.nu)), ((q 8), .inl (cI, 144, .inl mt)), ((q 9), .inl (cI, 4, .inl B.sz)), ((q 10), .inr (3, [.int (nI lv), .ref (q 11), .ref (q 12)])), ((q 11), .inl (cI, 80, .inl od)), ((q 12), .inl (cI, 10, .inl om)), ((q 13), .inr (4, [.int (bP (U)), .int (nI p - 1), .int vi, .int fa, .int so, .ref (q 14), .ref (q 15), .ref (q 16), .int (bP (V))])), ((q 14), .inl (cI, 80, .inl dr)), ((q 15), .inl (cI, 9, .inl br)), ((q 16), .inl (cI, 9, .inl un))] (nI (B.1)) := by
  refine MI.of (by decide) (Nat.le_of_ble_eq_true rfl) ?_
  intro zp ze zs zm zb zt zc ls A X hrt hlk G hl
  have hx := X.1
  have hb := X.2.1
  have hl : lv_has ls 1 [(0, .ref (q 0))] := hl
  refine lv_aload_n hx hb d_TD_rules_0 rfl (lv_at hl 0 rfl) ?_
  refine gf_TD_19 X G 0 rfl rfl d_TD_rules_1 ?_
  refine gf_TD_113 X G 3 rfl rfl d_TD_rules_4 ?_
  exact z_ret X hrt hlk G (rfl) (⟨rfl, rfl⟩) d_TD_rules_7
set_option maxHeartbeats 4000000 in
set_option maxRecDepth 100000 in
theorem c_visits (l : Launch) (D : va_G) (cI : ClassId) (q : Nat → Nat) (cnt lv p : Nat) (B : Bk) (mt dm db od om dr br un : Nat → Int32) (U V : Prop) (vi fa so : Int32) : MR l y_TD_visits b_TD_visits 1 .int 0 D cI [.ref (q 0)] [((q 0), .inr (0, [.ref (q 1), .ref (q 2), .ref (q 3), .ref (q 10), .ref (q 13), .int (nI cnt)])), ((q 1), .inl (cI, 8, .inl dm)), ((q 2), .inl (cI, 8, .inl db)), ((q 3), .inr (2, [.ref (q 4), .int (nI (B.1)), .ref (q 5), .ref (q 6), .ref (q 7)])), ((q 4), .inr (1, [.ref (q 8), .ref (q 9)])), ((q 5), .inl (cI, 16, .inl B.kd)), ((q 6), .inl (cI, 48, .inl B.mb)), ((q 7), .inl (cI, 16, .inl B.nu)), ((q 8), .inl (cI, 144, .inl mt)), ((q 9), .inl (cI, 4, .inl B.sz)), ((q 10), .inr (3, [.int (nI lv), .ref (q 11), .ref (q 12)])), ((q 11), .inl (cI, 80, .inl od)), ((q 12), .inl (cI, 10, .inl om)), ((q 13), .inr (4, [.int (bP (U)), .int (nI p - 1), .int vi, .int fa, .int so, .ref (q 14), .ref (q 15), .ref (q 16), .int (bP (V))])), ((q 14), .inl (cI, 80, .inl dr)), ((q 15), .inl (cI, 9, .inl br)), ((q 16), .inl (cI, 9, .inl un))] vi := by
  refine MI.of (by decide) (Nat.le_of_ble_eq_true rfl) ?_
  intro zp ze zs zm zb zt zc ls A X hrt hlk G hl
  have hx := X.1
  have hb := X.2.1
  have hl : lv_has ls 1 [(0, .ref (q 0))] := hl
  refine lv_aload_n hx hb d_TD_visits_0 rfl (lv_at hl 0 rfl) ?_
  refine gf_TD_33 X G 0 rfl rfl d_TD_visits_1 ?_
  refine gf_TD_153 X G 13 rfl rfl d_TD_visits_4 ?_
  exact z_ret X hrt hlk G (rfl) (⟨rfl, rfl⟩) d_TD_visits_7
set_option maxHeartbeats 4000000 in
set_option maxRecDepth 100000 in
theorem c_fails (l : Launch) (D : va_G) (cI : ClassId) (q : Nat → Nat) (cnt lv p : Nat) (B : Bk) (mt dm db od om dr br un : Nat → Int32) (U V : Prop) (vi fa so : Int32) : MR l y_TD_fails b_TD_fails 1 .int 0 D cI [.ref (q 0)] [((q 0), .inr (0, [.ref (q 1), .ref (q 2), .ref (q 3), .ref (q 10), .ref (q 13), .int (nI cnt)])), ((q 1), .inl (cI, 8, .inl dm)), ((q 2), .inl (cI, 8, .inl db)), ((q 3), .inr (2, [.ref (q 4), .int (nI (B.1)), .ref (q 5), .ref (q 6), .ref (q 7)])), ((q 4), .inr (1, [.ref (q 8), .ref (q 9)])), ((q 5), .inl (cI, 16, .inl B.kd)), ((q 6), .inl (cI, 48, .inl B.mb)), ((q 7), .inl (cI, 16, .inl B.nu)), ((q 8), .inl (cI, 144, .inl mt)), ((q 9), .inl (cI, 4, .inl B.sz)), ((q 10), .inr (3, [.int (nI lv), .ref (q 11), .ref (q 12)])), ((q 11), .inl (cI, 80, .inl od)), ((q 12), .inl (cI, 10, .inl om)), ((q 13), .inr (4, [.int (bP (U)), .int (nI p - 1), .int vi, .int fa, .int so, .ref (q 14), .ref (q 15), .ref (q 16), .int (bP (V))])), ((q 14), .inl (cI, 80, .inl dr)), ((q 15), .inl (cI, 9, .inl br)), ((q 16), .inl (cI, 9, .inl un))] fa := by
  refine MI.of (by decide) (Nat.le_of_ble_eq_true rfl) ?_
  intro zp ze zs zm zb zt zc ls A X hrt hlk G hl
  have hx := X.1
  have hb := X.2.1
  have hl : lv_has ls 1 [(0, .ref (q 0))] := hl
  refine lv_aload_n hx hb d_TD_fails_0 rfl (lv_at hl 0 rfl) ?_
  refine gf_TD_33 X G 0 rfl rfl d_TD_fails_1 ?_
  refine gf_TD_156 X G 13 rfl rfl d_TD_fails_4 ?_
  exact z_ret X hrt hlk G (rfl) (⟨rfl, rfl⟩) d_TD_fails_7
set_option maxHeartbeats 4000000 in
set_option maxRecDepth 100000 in
theorem c_found (l : Launch) (D : va_G) (cI : ClassId) (q : Nat → Nat) (cnt lv p : Nat) (B : Bk) (mt dm db od om dr br un : Nat → Int32) (U V : Prop) (vi fa so : Int32) : MR l y_TD_found b_TD_found 1 .int 0 D cI [.ref (q 0)] [((q 0), .inr (0, [.ref (q 1), .ref (q 2), .ref (q 3), .ref (q 10), .ref (q 13), .int (nI cnt)])), ((q 1), .inl (cI, 8, .inl dm)), ((q 2), .inl (cI, 8, .inl db)), ((q 3), .inr (2, [.ref (q 4), .int (nI (B.1)), .ref (q 5), .ref (q 6), .ref (q 7)])), ((q 4), .inr (1, [.ref (q 8), .ref (q 9)])), ((q 5), .inl (cI, 16, .inl B.kd)), ((q 6), .inl (cI, 48, .inl B.mb)), ((q 7), .inl (cI, 16, .inl B.nu)), ((q 8), .inl (cI, 144, .inl mt)), ((q 9), .inl (cI, 4, .inl B.sz)), ((q 10), .inr (3, [.int (nI lv), .ref (q 11), .ref (q 12)])), ((q 11), .inl (cI, 80, .inl od)), ((q 12), .inl (cI, 10, .inl om)), ((q 13), .inr (4, [.int (bP (U)), .int (nI p - 1), .int vi, .int fa, .int so, .ref (q 14), .ref (q 15), .ref (q 16), .int (bP (V))])), ((q 14), .inl (cI, 80, .inl dr)), ((q 15), .inl (cI, 9, .inl br)), ((q 16), .inl (cI, 9, .inl un))] so := by
  refine MI.of (by decide) (Nat.le_of_ble_eq_true rfl) ?_
  intro zp ze zs zm zb zt zc ls A X hrt hlk G hl
  have hx := X.1
  have hb := X.2.1
  have hl : lv_has ls 1 [(0, .ref (q 0))] := hl
  refine lv_aload_n hx hb d_TD_found_0 rfl (lv_at hl 0 rfl) ?_
  refine gf_TD_33 X G 0 rfl rfl d_TD_found_1 ?_
  refine gf_TD_159 X G 13 rfl rfl d_TD_found_4 ?_
  exact z_ret X hrt hlk G (rfl) (⟨rfl, rfl⟩) d_TD_found_7
set_option maxHeartbeats 4000000 in
set_option maxRecDepth 100000 in
theorem c_depth (l : Launch) (D : va_G) (cI : ClassId) (q : Nat → Nat) (cnt lv p : Nat) (B : Bk) (mt dm db od om dr br un : Nat → Int32) (U V : Prop) (vi fa so : Int32) (hp9 : p ≤ 9) : MI l y_TD_depth b_TD_depth 1 .int 1 D cI [.ref (q 0)] [((q 0), .inr (0, [.ref (q 1), .ref (q 2), .ref (q 3), .ref (q 10), .ref (q 13), .int (nI cnt)])), ((q 1), .inl (cI, 8, .inl dm)), ((q 2), .inl (cI, 8, .inl db)), ((q 3), .inr (2, [.ref (q 4), .int (nI (B.1)), .ref (q 5), .ref (q 6), .ref (q 7)])), ((q 4), .inr (1, [.ref (q 8), .ref (q 9)])), ((q 5), .inl (cI, 16, .inl B.kd)), ((q 6), .inl (cI, 48, .inl B.mb)), ((q 7), .inl (cI, 16, .inl B.nu)), ((q 8), .inl (cI, 144, .inl mt)), ((q 9), .inl (cI, 4, .inl B.sz)), ((q 10), .inr (3, [.int (nI lv), .ref (q 11), .ref (q 12)])), ((q 11), .inl (cI, 80, .inl od)), ((q 12), .inl (cI, 10, .inl om)), ((q 13), .inr (4, [.int (bP (U)), .int (nI p - 1), .int vi, .int fa, .int so, .ref (q 14), .ref (q 15), .ref (q 16), .int (bP (V))])), ((q 14), .inl (cI, 80, .inl dr)), ((q 15), .inl (cI, 9, .inl br)), ((q 16), .inl (cI, 9, .inl un))] (fun r u => ((U ∧ r = nI (p - 1)) ∨ (¬ U ∧ r = -1)) ∧ u = [((q 0), .inr (0, [.ref (q 1), .ref (q 2), .ref (q 3), .ref (q 10), .ref (q 13), .int (nI cnt)])), ((q 1), .inl (cI, 8, .inl dm)), ((q 2), .inl (cI, 8, .inl db)), ((q 3), .inr (2, [.ref (q 4), .int (nI (B.1)), .ref (q 5), .ref (q 6), .ref (q 7)])), ((q 4), .inr (1, [.ref (q 8), .ref (q 9)])), ((q 5), .inl (cI, 16, .inl B.kd)), ((q 6), .inl (cI, 48, .inl B.mb)), ((q 7), .inl (cI, 16, .inl B.nu)), ((q 8), .inl (cI, 144, .inl mt)), ((q 9), .inl (cI, 4, .inl B.sz)), ((q 10), .inr (3, [.int (nI lv), .ref (q 11), .ref (q 12)])), ((q 11), .inl (cI, 80, .inl od)), ((q 12), .inl (cI, 10, .inl om)), ((q 13), .inr (4, [.int (bP (U)), .int (nI p - 1), .int vi, .int fa, .int so, .ref (q 14), .ref (q 15), .ref (q 16), .int (bP (V))])), ((q 14), .inl (cI, 80, .inl dr)), ((q 15), .inl (cI, 9, .inl br)), ((q 16), .inl (cI, 9, .inl un))]) := by
  refine MI.of (by decide) (Nat.le_of_ble_eq_true rfl) ?_
  intro zp ze zs zm zb zt zc ls A X hrt hlk G hl
  have hx := X.1
  have hb := X.2.1
  have hl : lv_has ls 1 [(0, .ref (q 0))] := hl
  refine lv_aload_n hx hb d_TD_depth_0 rfl (lv_at hl 0 rfl) ?_
  refine gf_TD_33 X G 0 rfl rfl d_TD_depth_1 ?_
  refine gf_TD_82 X G 13 rfl rfl d_TD_depth_4 ?_
  refine zb_eq hx hb d_TD_depth_7 rfl (fun h7 => ?_) (fun h7 => ?_)
  · skip
    refine lv_iconst (v := (-1)) hx hb d_TD_depth_24 (by decide) ?_
    exact z_ret X hrt hlk G (rfl) (⟨Or.inr ⟨h7, rfl⟩, rfl⟩) d_TD_depth_25
  · skip
    refine lv_aload_n hx hb d_TD_depth_10 rfl (lv_at hl 0 rfl) ?_
    refine gf_TD_33 X G 0 rfl rfl d_TD_depth_11 ?_
    refine gf_TD_145 X G 13 rfl rfl d_TD_depth_14 ?_
    refine lv_iconst (v := (nI 0)) hx hb d_TD_depth_17 (by decide) ?_
    refine va_mmax hx hb (by rw [X.2.2.1, hl.1]) X.2.2.2.1 (X.2.2.2.2.1 _ lk_TD_148.1) (X.2.2.2.2.1 _ lk_TD_148.2.1) (X.2.2.2.2.1 _ lk_TD_148.2.2.1) (X.2.2.2.2.1 _ lk_TD_148.2.2.2) (by decide) (Nat.le_of_ble_eq_true rfl) (Nat.zero_le _) (Nat.zero_le _) d_TD_depth_18 ?_
    refine z_top (nI (p - 1)) (max_dp (by omega)) ?_
    refine lv_goto hx hb d_TD_depth_21 rfl ?_
    exact z_ret X hrt hlk G (rfl) (⟨Or.inl ⟨h7, rfl⟩, rfl⟩) d_TD_depth_25
set_option maxHeartbeats 4000000 in
set_option maxRecDepth 100000 in
theorem c_advance (l : Launch) (D : va_G) (cI : ClassId) (q : Nat → Nat) (cnt lv p : Nat) (B : Bk) (mt dm db od om dr br un : Nat → Int32) (U V : Prop) (vi fa so : Int32) (n : Int32) (hB : BOk cnt B) (hM : LOk B mt) (hT : U → TIv cnt p V dr br un dm) : MI l y_TD_advance b_TD_advance 3 .int 7 D cI [.ref (q 0), .int n] [((q 0), .inr (0, [.ref (q 1), .ref (q 2), .ref (q 3), .ref (q 10), .ref (q 13), .int (nI cnt)])), ((q 1), .inl (cI, 8, .inl dm)), ((q 2), .inl (cI, 8, .inl db)), ((q 3), .inr (2, [.ref (q 4), .int (nI (B.1)), .ref (q 5), .ref (q 6), .ref (q 7)])), ((q 4), .inr (1, [.ref (q 8), .ref (q 9)])), ((q 5), .inl (cI, 16, .inl B.kd)), ((q 6), .inl (cI, 48, .inl B.mb)), ((q 7), .inl (cI, 16, .inl B.nu)), ((q 8), .inl (cI, 144, .inl mt)), ((q 9), .inl (cI, 4, .inl B.sz)), ((q 10), .inr (3, [.int (nI lv), .ref (q 11), .ref (q 12)])), ((q 11), .inl (cI, 80, .inl od)), ((q 12), .inl (cI, 10, .inl om)), ((q 13), .inr (4, [.int (bP (U)), .int (nI p - 1), .int vi, .int fa, .int so, .ref (q 14), .ref (q 15), .ref (q 16), .int (bP (V))])), ((q 14), .inl (cI, 80, .inl dr)), ((q 15), .inl (cI, 9, .inl br)), ((q 16), .inl (cI, 9, .inl un))] (fun r u => (¬ (U ∧ 1 ≤ n.toInt ∧ n.toInt ≤ 20) ∧ r = -1 ∧ u = [((q 0), .inr (0, [.ref (q 1), .ref (q 2), .ref (q 3), .ref (q 10), .ref (q 13), .int (nI cnt)])), ((q 1), .inl (cI, 8, .inl dm)), ((q 2), .inl (cI, 8, .inl db)), ((q 3), .inr (2, [.ref (q 4), .int (nI (B.1)), .ref (q 5), .ref (q 6), .ref (q 7)])), ((q 4), .inr (1, [.ref (q 8), .ref (q 9)])), ((q 5), .inl (cI, 16, .inl B.kd)), ((q 6), .inl (cI, 48, .inl B.mb)), ((q 7), .inl (cI, 16, .inl B.nu)), ((q 8), .inl (cI, 144, .inl mt)), ((q 9), .inl (cI, 4, .inl B.sz)), ((q 10), .inr (3, [.int (nI lv), .ref (q 11), .ref (q 12)])), ((q 11), .inl (cI, 80, .inl od)), ((q 12), .inl (cI, 10, .inl om)), ((q 13), .inr (4, [.int (bP (U)), .int (nI p - 1), .int vi, .int fa, .int so, .ref (q 14), .ref (q 15), .ref (q 16), .int (bP (V))])), ((q 14), .inl (cI, 80, .inl dr)), ((q 15), .inl (cI, 9, .inl br)), ((q 16), .inl (cI, 9, .inl un))]) ∨ ((U ∧ 1 ≤ n.toInt ∧ n.toInt ≤ 20) ∧ ∃ nn rr p1 vi1 fa1 so1 dr1 br1 un1 dm1, n = nI nn ∧ nn ≤ 20 ∧ Adv cnt B nn (p, V, vi, fa, so, dr, br, un, dm) rr (p1, True, vi1, fa1, so1, dr1, br1, un1, dm1) ∧ r = nI rr ∧ ((rr ≠ 0 ∧ TIv cnt p1 True dr1 br1 un1 dm1 ∧ u = [((q 0), .inr (0, [.ref (q 1), .ref (q 2), .ref (q 3), .ref (q 10), .ref (q 13), .int (nI cnt)])), ((q 1), .inl (cI, 8, .inl dm1)), ((q 2), .inl (cI, 8, .inl db)), ((q 3), .inr (2, [.ref (q 4), .int (nI (B.1)), .ref (q 5), .ref (q 6), .ref (q 7)])), ((q 4), .inr (1, [.ref (q 8), .ref (q 9)])), ((q 5), .inl (cI, 16, .inl B.kd)), ((q 6), .inl (cI, 48, .inl B.mb)), ((q 7), .inl (cI, 16, .inl B.nu)), ((q 8), .inl (cI, 144, .inl mt)), ((q 9), .inl (cI, 4, .inl B.sz)), ((q 10), .inr (3, [.int (nI lv), .ref (q 11), .ref (q 12)])), ((q 11), .inl (cI, 80, .inl od)), ((q 12), .inl (cI, 10, .inl om)), ((q 13), .inr (4, [.int (bP (U)), .int (nI p1 - 1), .int vi1, .int fa1, .int so1, .ref (q 14), .ref (q 15), .ref (q 16), .int (nI 1)])), ((q 14), .inl (cI, 80, .inl dr1)), ((q 15), .inl (cI, 9, .inl br1)), ((q 16), .inl (cI, 9, .inl un1))]) ∨ (rr = 0 ∧ u = [((q 0), .inr (0, [.ref (q 1), .ref (q 2), .ref (q 3), .ref (q 10), .ref (q 13), .int (nI cnt)])), ((q 1), .inl (cI, 8, .inl (va_cpy dr1 dm1 (0 * 8) 0 8))), ((q 2), .inl (cI, 8, .inl db)), ((q 3), .inr (2, [.ref (q 4), .int (nI (B.1)), .ref (q 5), .ref (q 6), .ref (q 7)])), ((q 4), .inr (1, [.ref (q 8), .ref (q 9)])), ((q 5), .inl (cI, 16, .inl B.kd)), ((q 6), .inl (cI, 48, .inl B.mb)), ((q 7), .inl (cI, 16, .inl B.nu)), ((q 8), .inl (cI, 144, .inl mt)), ((q 9), .inl (cI, 4, .inl B.sz)), ((q 10), .inr (3, [.int (nI lv), .ref (q 11), .ref (q 12)])), ((q 11), .inl (cI, 80, .inl od)), ((q 12), .inl (cI, 10, .inl om)), ((q 13), .inr (4, [.int (nI 0), .int (nI 0 - 1), .int vi1, .int fa1, .int so1, .ref (q 14), .ref (q 15), .ref (q 16), .int (nI 1)])), ((q 14), .inl (cI, 80, .inl dr1)), ((q 15), .inl (cI, 9, .inl br1)), ((q 16), .inl (cI, 9, .inl un1))])))) := by
  refine MI.of (by decide) (Nat.le_of_ble_eq_true rfl) ?_
  intro zp ze zs zm zb zt zc ls A X hrt hlk G hl
  have hx := X.1
  have hb := X.2.1
  have hl : lv_has ls 3 [(0, .ref (q 0)), (1, .int n)] := hl
  have hc8 := hB.1
  have hn16 := hB.2.1
  refine lv_aload_n hx hb d_TD_advance_0 rfl (lv_at hl 0 rfl) ?_
  refine gf_TD_33 X G 0 rfl rfl d_TD_advance_1 ?_
  refine gf_TD_82 X G 13 rfl rfl d_TD_advance_4 ?_
  refine zb_eq hx hb d_TD_advance_7 rfl (fun h7 => ?_) (fun h7 => ?_)
  · skip
    refine lv_iconst (v := (-1)) hx hb d_TD_advance_21 (by decide) ?_
    exact z_ret X hrt hlk G (rfl) (Or.inl ⟨by first | exact fun h9 => h7 h9.1 | exact fun h9 => absurd h9.2 (by omega), rfl, rfl⟩) d_TD_advance_22
  · skip
    refine lv_iload_n hx hb d_TD_advance_10 rfl (lv_at hl 1 rfl) ?_
    refine lv_iconst (v := (nI 1)) hx hb d_TD_advance_11 (by decide) ?_
    refine zi_icmp_lt hx hb d_TD_advance_12 rfl rfl (by decide : (nI 1).toInt = 1) (fun h12 => ?_) (fun h12 => ?_)
    · skip
      refine lv_iconst (v := (-1)) hx hb d_TD_advance_21 (by decide) ?_
      exact z_ret X hrt hlk G (rfl) (Or.inl ⟨by first | exact fun h9 => h7 h9.1 | exact fun h9 => absurd h9.2 (by omega), rfl, rfl⟩) d_TD_advance_22
    · skip
      refine lv_iload_n hx hb d_TD_advance_15 rfl (lv_at hl 1 rfl) ?_
      refine lv_bipush (v := (nI 20)) hx hb d_TD_advance_16 (by decide) ?_
      refine zi_icmp_le hx hb d_TD_advance_18 rfl rfl (by decide : (nI 20).toInt = 20) (fun h18 => ?_) (fun h18 => ?_)
      · skip
        obtain ⟨nn, hnn, hnx⟩ := nI_ex (k := 21) (v := n) (by omega) (by omega) (by decide)
        have hn1 : 1 ≤ nn := by rw [hnx, nI_toInt (by omega)] at h12; omega
        rw [hnx] at hl
        refine lv_iconst (v := (nI 0)) hx hb d_TD_advance_23 (by decide) ?_
        refine lv_istore_n hx hb d_TD_advance_24 rfl hl (by decide) rfl (fun ls hl => ?_)
        have hl : lv_has ls 3 [(2, .int (nI 0)), (0, .ref (q 0)), (1, .int (nI nn))] := hl
        have lp : ∀ (fu : Nat) (md : Nat) (V1 : Prop) (p1 : Nat) (vi1 fa1 so1 : Int32) (dr1 br1 un1 dm1 : Nat → Int32) (hmd : md ≤ nn) (hT1 : TIv cnt p1 V1 dr1 br1 un1 dm1) (hV1 : 0 < md → V1) (hA : ∀ rr t, Adv cnt B (nn - md) (p1, V1, vi1, fa1, so1, dr1, br1, un1, dm1) rr t → Adv cnt B nn (p, V, vi, fa, so, dr, br, un, dm) rr t) (hfu : nn - md < fu) (H : Heap) (locs : List Loc) (ls : Array Slot), Gw D A zs.heap H locs [((q 0), .inr (0, [.ref (q 1), .ref (q 2), .ref (q 3), .ref (q 10), .ref (q 13), .int (nI cnt)])), ((q 1), .inl (cI, 8, .inl dm1)), ((q 2), .inl (cI, 8, .inl db)), ((q 3), .inr (2, [.ref (q 4), .int (nI (B.1)), .ref (q 5), .ref (q 6), .ref (q 7)])), ((q 4), .inr (1, [.ref (q 8), .ref (q 9)])), ((q 5), .inl (cI, 16, .inl B.kd)), ((q 6), .inl (cI, 48, .inl B.mb)), ((q 7), .inl (cI, 16, .inl B.nu)), ((q 8), .inl (cI, 144, .inl mt)), ((q 9), .inl (cI, 4, .inl B.sz)), ((q 10), .inr (3, [.int (nI lv), .ref (q 11), .ref (q 12)])), ((q 11), .inl (cI, 80, .inl od)), ((q 12), .inl (cI, 10, .inl om)), ((q 13), .inr (4, [.int (bP (U)), .int (nI p1 - 1), .int vi1, .int fa1, .int so1, .ref (q 14), .ref (q 15), .ref (q 16), .int (bP (V1))])), ((q 14), .inl (cI, 80, .inl dr1)), ((q 15), .inl (cI, 9, .inl br1)), ((q 16), .inl (cI, 9, .inl un1))] → lv_has ls 3 [(2, .int (nI md)), (1, .int (nI nn)), (0, .ref (q 0))] → W zp l ze (zr 7) zs zm ([.ref (q 0), .int n] : List Value).toArray zb zt zc H locs 0 0 (ZI D zb ([.ref (q 0), .int n] : List Value) zs A (fun r u => (¬ (U ∧ 1 ≤ n.toInt ∧ n.toInt ≤ 20) ∧ r = -1 ∧ u = [((q 0), .inr (0, [.ref (q 1), .ref (q 2), .ref (q 3), .ref (q 10), .ref (q 13), .int (nI cnt)])), ((q 1), .inl (cI, 8, .inl dm)), ((q 2), .inl (cI, 8, .inl db)), ((q 3), .inr (2, [.ref (q 4), .int (nI (B.1)), .ref (q 5), .ref (q 6), .ref (q 7)])), ((q 4), .inr (1, [.ref (q 8), .ref (q 9)])), ((q 5), .inl (cI, 16, .inl B.kd)), ((q 6), .inl (cI, 48, .inl B.mb)), ((q 7), .inl (cI, 16, .inl B.nu)), ((q 8), .inl (cI, 144, .inl mt)), ((q 9), .inl (cI, 4, .inl B.sz)), ((q 10), .inr (3, [.int (nI lv), .ref (q 11), .ref (q 12)])), ((q 11), .inl (cI, 80, .inl od)), ((q 12), .inl (cI, 10, .inl om)), ((q 13), .inr (4, [.int (bP (U)), .int (nI p - 1), .int vi, .int fa, .int so, .ref (q 14), .ref (q 15), .ref (q 16), .int (bP (V))])), ((q 14), .inl (cI, 80, .inl dr)), ((q 15), .inl (cI, 9, .inl br)), ((q 16), .inl (cI, 9, .inl un))]) ∨ ((U ∧ 1 ≤ n.toInt ∧ n.toInt ≤ 20) ∧ ∃ nn rr p1 vi1 fa1 so1 dr1 br1 un1 dm1, n = nI nn ∧ nn ≤ 20 ∧ Adv cnt B nn (p, V, vi, fa, so, dr, br, un, dm) rr (p1, True, vi1, fa1, so1, dr1, br1, un1, dm1) ∧ r = nI rr ∧ ((rr ≠ 0 ∧ TIv cnt p1 True dr1 br1 un1 dm1 ∧ u = [((q 0), .inr (0, [.ref (q 1), .ref (q 2), .ref (q 3), .ref (q 10), .ref (q 13), .int (nI cnt)])), ((q 1), .inl (cI, 8, .inl dm1)), ((q 2), .inl (cI, 8, .inl db)), ((q 3), .inr (2, [.ref (q 4), .int (nI (B.1)), .ref (q 5), .ref (q 6), .ref (q 7)])), ((q 4), .inr (1, [.ref (q 8), .ref (q 9)])), ((q 5), .inl (cI, 16, .inl B.kd)), ((q 6), .inl (cI, 48, .inl B.mb)), ((q 7), .inl (cI, 16, .inl B.nu)), ((q 8), .inl (cI, 144, .inl mt)), ((q 9), .inl (cI, 4, .inl B.sz)), ((q 10), .inr (3, [.int (nI lv), .ref (q 11), .ref (q 12)])), ((q 11), .inl (cI, 80, .inl od)), ((q 12), .inl (cI, 10, .inl om)), ((q 13), .inr (4, [.int (bP (U)), .int (nI p1 - 1), .int vi1, .int fa1, .int so1, .ref (q 14), .ref (q 15), .ref (q 16), .int (nI 1)])), ((q 14), .inl (cI, 80, .inl dr1)), ((q 15), .inl (cI, 9, .inl br1)), ((q 16), .inl (cI, 9, .inl un1))]) ∨ (rr = 0 ∧ u = [((q 0), .inr (0, [.ref (q 1), .ref (q 2), .ref (q 3), .ref (q 10), .ref (q 13), .int (nI cnt)])), ((q 1), .inl (cI, 8, .inl (va_cpy dr1 dm1 (0 * 8) 0 8))), ((q 2), .inl (cI, 8, .inl db)), ((q 3), .inr (2, [.ref (q 4), .int (nI (B.1)), .ref (q 5), .ref (q 6), .ref (q 7)])), ((q 4), .inr (1, [.ref (q 8), .ref (q 9)])), ((q 5), .inl (cI, 16, .inl B.kd)), ((q 6), .inl (cI, 48, .inl B.mb)), ((q 7), .inl (cI, 16, .inl B.nu)), ((q 8), .inl (cI, 144, .inl mt)), ((q 9), .inl (cI, 4, .inl B.sz)), ((q 10), .inr (3, [.int (nI lv), .ref (q 11), .ref (q 12)])), ((q 11), .inl (cI, 80, .inl od)), ((q 12), .inl (cI, 10, .inl om)), ((q 13), .inr (4, [.int (nI 0), .int (nI 0 - 1), .int vi1, .int fa1, .int so1, .ref (q 14), .ref (q 15), .ref (q 16), .int (nI 1)])), ((q 14), .inl (cI, 80, .inl dr1)), ((q 15), .inl (cI, 9, .inl br1)), ((q 16), .inl (cI, 9, .inl un1))]))))) (F0 zm 25 ls []) := by
          intro fu
          induction fu with
          | zero => intro md V1 p1 vi1 fa1 so1 dr1 br1 un1 dm1 hmd hT1 hV1 hA hfu; exact absurd hfu (Nat.not_lt_zero _)
          | succ fu lp =>
            intro md V1 p1 vi1 fa1 so1 dr1 br1 un1 dm1 hmd hT1 hV1 hA hfu H locs ls G hl
            refine lv_iload_n hx hb d_TD_advance_25 rfl (lv_at hl 0 rfl) ?_
            refine lv_iload_n hx hb d_TD_advance_26 rfl (lv_at hl 1 rfl) ?_
            refine zi_icmp_ge hx hb d_TD_advance_27 rfl (nI_toInt (by omega) : (nI md).toInt = ((md : Nat) : Int)) (nI_toInt (by omega) : (nI nn).toInt = ((nn : Nat) : Int)) (fun h27 => ?_) (fun h27 => ?_)
            · skip
              refine lv_iconst (v := (nI 1)) hx hb d_TD_advance_83 (by decide) ?_
              have hv1 := hV1 (by omega)
              rw [bP_t hv1] at G
              have ev1 : V1 = True := eq_true hv1
              subst ev1
              exact z_ret X hrt hlk G (rfl) (Or.inr ⟨⟨h7, by omega, by omega⟩, nn, 1, p1, vi1, fa1, so1, dr1, br1, un1, dm1, hnx, by omega, hA _ _ (adv_0 (by omega)), rfl, Or.inl ⟨by decide, hT1, rfl⟩⟩) d_TD_advance_84
            · skip
              refine lv_aload_n hx hb d_TD_advance_30 rfl (lv_at hl 2 rfl) ?_
              refine gf_TD_33 X G 0 rfl rfl d_TD_advance_31 ?_
              refine lv_aload_n hx hb d_TD_advance_34 rfl (lv_at hl 2 rfl) ?_
              refine gf_TD_9 X G 0 rfl rfl d_TD_advance_35 ?_
              refine zV_I (wr := [((q 0), .inr (0, [.ref (q 1), .ref (q 2), .ref (q 3), .ref (q 10), .ref (q 13), .int (nI cnt)])), ((q 2), .inl (cI, 8, .inl db)), ((q 3), .inr (2, [.ref (q 4), .int (nI (B.1)), .ref (q 5), .ref (q 6), .ref (q 7)])), ((q 4), .inr (1, [.ref (q 8), .ref (q 9)])), ((q 5), .inl (cI, 16, .inl B.kd)), ((q 6), .inl (cI, 48, .inl B.mb)), ((q 7), .inl (cI, 16, .inl B.nu)), ((q 8), .inl (cI, 144, .inl mt)), ((q 9), .inl (cI, 4, .inl B.sz)), ((q 10), .inr (3, [.int (nI lv), .ref (q 11), .ref (q 12)])), ((q 11), .inl (cI, 80, .inl od)), ((q 12), .inl (cI, 10, .inl om))]) X G (c_prepareVisit l D cI q (bP U) vi1 fa1 so1 V1 p1 dr1 dm1 br1 un1 hT1.1 (fun d h9 h8 => by obtain ⟨x, g1, g2, _⟩ := (hT1.2.2.2.2 d h9).2.2 h8; exact ⟨x, by omega, g2⟩)) lk_TD_127 [13, 14, 15, 16, 1] rfl (by decide) [0, 2, 3, 4, 5, 6, 7, 8, 9, 10, 11, 12] rfl (by decide) (by decide) 0 rfl rfl ⟨by decide, by decide⟩ ⟨Nat.zero_le _, Nat.zero_le _⟩ hl.1 rfl (Nat.le_of_ble_eq_true rfl) d_TD_advance_38 (fun r38 u H locs q38 G => ?_)
              obtain ⟨p2, un2, dm2, q38, rfl⟩ := q38
              have G : Gw D A zs.heap H locs [((q 0), .inr (0, [.ref (q 1), .ref (q 2), .ref (q 3), .ref (q 10), .ref (q 13), .int (nI cnt)])), ((q 1), .inl (cI, 8, .inl dm2)), ((q 2), .inl (cI, 8, .inl db)), ((q 3), .inr (2, [.ref (q 4), .int (nI (B.1)), .ref (q 5), .ref (q 6), .ref (q 7)])), ((q 4), .inr (1, [.ref (q 8), .ref (q 9)])), ((q 5), .inl (cI, 16, .inl B.kd)), ((q 6), .inl (cI, 48, .inl B.mb)), ((q 7), .inl (cI, 16, .inl B.nu)), ((q 8), .inl (cI, 144, .inl mt)), ((q 9), .inl (cI, 4, .inl B.sz)), ((q 10), .inr (3, [.int (nI lv), .ref (q 11), .ref (q 12)])), ((q 11), .inl (cI, 80, .inl od)), ((q 12), .inl (cI, 10, .inl om)), ((q 13), .inr (4, [.int (bP (U)), .int (nI p2 - 1), .int vi1, .int fa1, .int so1, .ref (q 14), .ref (q 15), .ref (q 16), .int (nI 1)])), ((q 14), .inl (cI, 80, .inl dr1)), ((q 15), .inl (cI, 9, .inl br1)), ((q 16), .inl (cI, 9, .inl un2))] := G.sub [0, 16, 1, 2, 3, 4, 5, 6, 7, 8, 9, 10, 11, 12, 13, 14, 15] (by decide) rfl
              refine zi_if_ne hx hb d_TD_advance_41 rfl rfl (fun h41 => ?_) (fun h41 => ?_)
              · skip
                have hr1 : r38 = 1 := (Prp.r01 q38).resolve_left (t_ne0 h41)
                rw [hr1] at q38
                have hMd := prp_mid hc8 hT1 q38 (by decide)
                refine lv_aload_n hx hb d_TD_advance_57 rfl (lv_at hl 2 rfl) ?_
                refine gf_TD_33 X G 0 rfl rfl d_TD_advance_58 ?_
                refine lv_aload_n hx hb d_TD_advance_61 rfl (lv_at hl 2 rfl) ?_
                refine gf_TD_19 X G 0 rfl rfl d_TD_advance_62 ?_
                refine lv_aload_n hx hb d_TD_advance_65 rfl (lv_at hl 2 rfl) ?_
                refine gf_TD_9 X G 0 rfl rfl d_TD_advance_66 ?_
                refine zV_I (wr := [((q 0), .inr (0, [.ref (q 1), .ref (q 2), .ref (q 3), .ref (q 10), .ref (q 13), .int (nI cnt)])), ((q 2), .inl (cI, 8, .inl db)), ((q 10), .inr (3, [.int (nI lv), .ref (q 11), .ref (q 12)])), ((q 11), .inl (cI, 80, .inl od)), ((q 12), .inl (cI, 10, .inl om))]) X G (c_visit l D cI q cnt B mt (bP U) vi1 fa1 so1 (nI 1) p2 dr1 dm2 br1 un2 hB hM hMd.2.2.2.1 hMd.2.2.2.2.1 hMd.1 (fun E h9 => (hMd.2.2.2.2.2 E h9.1.1 h9.1.2.1).1)) lk_TD_133 [13, 14, 15, 16, 3, 4, 5, 6, 7, 8, 9, 1] rfl (by decide) [0, 2, 10, 11, 12] rfl (by decide) (by decide) 0 rfl rfl ⟨by decide, by decide⟩ ⟨Nat.zero_le _, Nat.zero_le _⟩ hl.1 rfl (Nat.le_of_ble_eq_true rfl) d_TD_advance_69 (fun r69 u H locs q69 G => ?_)
                obtain ⟨p3, vi3, fa3, so3, dr3, br3, un3, dm3, q69, rfl⟩ := q69
                have G : Gw D A zs.heap H locs [((q 0), .inr (0, [.ref (q 1), .ref (q 2), .ref (q 3), .ref (q 10), .ref (q 13), .int (nI cnt)])), ((q 1), .inl (cI, 8, .inl dm3)), ((q 2), .inl (cI, 8, .inl db)), ((q 3), .inr (2, [.ref (q 4), .int (nI (B.1)), .ref (q 5), .ref (q 6), .ref (q 7)])), ((q 4), .inr (1, [.ref (q 8), .ref (q 9)])), ((q 5), .inl (cI, 16, .inl B.kd)), ((q 6), .inl (cI, 48, .inl B.mb)), ((q 7), .inl (cI, 16, .inl B.nu)), ((q 8), .inl (cI, 144, .inl mt)), ((q 9), .inl (cI, 4, .inl B.sz)), ((q 10), .inr (3, [.int (nI lv), .ref (q 11), .ref (q 12)])), ((q 11), .inl (cI, 80, .inl od)), ((q 12), .inl (cI, 10, .inl om)), ((q 13), .inr (4, [.int (bP (U)), .int (nI p3 - 1), .int vi3, .int fa3, .int so3, .ref (q 14), .ref (q 15), .ref (q 16), .int (nI 1)])), ((q 14), .inl (cI, 80, .inl dr3)), ((q 15), .inl (cI, 9, .inl br3)), ((q 16), .inl (cI, 9, .inl un3))] := G.sub [0, 16, 1, 9, 10, 11, 12, 13, 14, 15, 2, 3, 4, 5, 6, 7, 8] (by decide) rfl
                refine zi_if_eq hx hb d_TD_advance_72 rfl rfl (fun h72 => ?_) (fun h72 => ?_)
                · skip
                  have hs0 : r69 = 0 := t_nat (n := 0) h72 (by decide)
                  refine lv_iinc (v := (nI (md + 1))) hx hb d_TD_advance_77 hl (k := 0) rfl (nI_1 md) (by decide) rfl (fun ls hl => ?_)
                  have hl : lv_has ls 3 [(2, .int (nI (md + 1))), (1, .int (nI nn)), (0, .ref (q 0))] := hl
                  refine lv_goto hx hb d_TD_advance_80 rfl ?_
                  have hl : lv_has ls 3 [(2, .int (nI (md + 1))), (1, .int (nI nn)), (0, .ref (q 0))] := lv_sub hl [0, 1, 2] rfl
                  have G : Gw D A zs.heap H locs [((q 0), .inr (0, [.ref (q 1), .ref (q 2), .ref (q 3), .ref (q 10), .ref (q 13), .int (nI cnt)])), ((q 1), .inl (cI, 8, .inl dm3)), ((q 2), .inl (cI, 8, .inl db)), ((q 3), .inr (2, [.ref (q 4), .int (nI (B.1)), .ref (q 5), .ref (q 6), .ref (q 7)])), ((q 4), .inr (1, [.ref (q 8), .ref (q 9)])), ((q 5), .inl (cI, 16, .inl B.kd)), ((q 6), .inl (cI, 48, .inl B.mb)), ((q 7), .inl (cI, 16, .inl B.nu)), ((q 8), .inl (cI, 144, .inl mt)), ((q 9), .inl (cI, 4, .inl B.sz)), ((q 10), .inr (3, [.int (nI lv), .ref (q 11), .ref (q 12)])), ((q 11), .inl (cI, 80, .inl od)), ((q 12), .inl (cI, 10, .inl om)), ((q 13), .inr (4, [.int (bP (U)), .int (nI p3 - 1), .int vi3, .int fa3, .int so3, .ref (q 14), .ref (q 15), .ref (q 16), .int (bP (True))])), ((q 14), .inl (cI, 80, .inl dr3)), ((q 15), .inl (cI, 9, .inl br3)), ((q 16), .inl (cI, 9, .inl un3))] := by rw [bP_t trivial]; exact G
                  exact lp (md + 1) True p3 vi3 fa3 so3 dr3 br3 un3 dm3 (by omega) (vis_ok hMd q69) (fun _ => trivial) (fun rr t h9 => hA rr t (adv_s1 (by omega) ⟨p2, un2, dm2, Or.inr ⟨q38, r69, p3, vi3, fa3, so3, dr3, br3, un3, dm3, q69, by rw [if_neg (by rw [hs0]; decide)], rfl⟩⟩ (by rw [show nn - md - 1 = nn - (md + 1) by omega]; exact h9))) (by omega) _ _ _ G hl
                · skip
                  have hs1 : r69 = 1 := (Vis.r01 q69).resolve_left (t_ne0 h72)
                  refine lv_iconst (v := (nI 2)) hx hb d_TD_advance_75 (by decide) ?_
                  exact z_ret X hrt hlk G (rfl) (Or.inr ⟨⟨h7, by omega, by omega⟩, nn, 2, p3, vi3, fa3, so3, dr3, br3, un3, dm3, hnx, by omega, hA _ _ (adv_s0 (by omega) ⟨p2, un2, dm2, Or.inr ⟨q38, r69, p3, vi3, fa3, so3, dr3, br3, un3, dm3, q69, by rw [if_pos hs1], rfl⟩⟩ (by decide)), rfl, Or.inl ⟨by decide, vis_ok hMd q69, rfl⟩⟩) d_TD_advance_76
              · skip
                have hr0 : r38 = 0 := t_nat (n := 0) h41 (by decide)
                rw [hr0] at q38
                refine lv_aload_n hx hb d_TD_advance_44 rfl (lv_at hl 2 rfl) ?_
                refine gf_TD_33 X G 0 rfl rfl d_TD_advance_45 ?_
                refine lv_aload_n hx hb d_TD_advance_48 rfl (lv_at hl 2 rfl) ?_
                refine gf_TD_9 X G 0 rfl rfl d_TD_advance_49 ?_
                refine zV_W (wr := [((q 0), .inr (0, [.ref (q 1), .ref (q 2), .ref (q 3), .ref (q 10), .ref (q 13), .int (nI cnt)])), ((q 2), .inl (cI, 8, .inl db)), ((q 3), .inr (2, [.ref (q 4), .int (nI (B.1)), .ref (q 5), .ref (q 6), .ref (q 7)])), ((q 4), .inr (1, [.ref (q 8), .ref (q 9)])), ((q 5), .inl (cI, 16, .inl B.kd)), ((q 6), .inl (cI, 48, .inl B.mb)), ((q 7), .inl (cI, 16, .inl B.nu)), ((q 8), .inl (cI, 144, .inl mt)), ((q 9), .inl (cI, 4, .inl B.sz)), ((q 10), .inr (3, [.int (nI lv), .ref (q 11), .ref (q 12)])), ((q 11), .inl (cI, 80, .inl od)), ((q 12), .inl (cI, 10, .inl om)), ((q 15), .inl (cI, 9, .inl br1)), ((q 16), .inl (cI, 9, .inl un2))]) X G (c_end l D cI q (bP U) vi1 fa1 so1 (nI 1) p2 dr1 dm2) lk_TD_130 [13, 14, 1] rfl (by decide) [0, 2, 3, 4, 5, 6, 7, 8, 9, 10, 11, 12, 15, 16] rfl (by decide) (by decide) 0 rfl rfl ⟨by decide, by decide⟩ ⟨Nat.zero_le _, Nat.zero_le _⟩ hl.1 rfl (Nat.le_of_ble_eq_true rfl) d_TD_advance_52 (fun u H locs q52 G => ?_)
                subst q52
                have G : Gw D A zs.heap H locs [((q 0), .inr (0, [.ref (q 1), .ref (q 2), .ref (q 3), .ref (q 10), .ref (q 13), .int (nI cnt)])), ((q 1), .inl (cI, 8, .inl (va_cpy dr1 dm2 (0 * 8) 0 8))), ((q 2), .inl (cI, 8, .inl db)), ((q 3), .inr (2, [.ref (q 4), .int (nI (B.1)), .ref (q 5), .ref (q 6), .ref (q 7)])), ((q 4), .inr (1, [.ref (q 8), .ref (q 9)])), ((q 5), .inl (cI, 16, .inl B.kd)), ((q 6), .inl (cI, 48, .inl B.mb)), ((q 7), .inl (cI, 16, .inl B.nu)), ((q 8), .inl (cI, 144, .inl mt)), ((q 9), .inl (cI, 4, .inl B.sz)), ((q 10), .inr (3, [.int (nI lv), .ref (q 11), .ref (q 12)])), ((q 11), .inl (cI, 80, .inl od)), ((q 12), .inl (cI, 10, .inl om)), ((q 13), .inr (4, [.int (nI 0), .int (nI 0 - 1), .int vi1, .int fa1, .int so1, .ref (q 14), .ref (q 15), .ref (q 16), .int (nI 1)])), ((q 14), .inl (cI, 80, .inl dr1)), ((q 15), .inl (cI, 9, .inl br1)), ((q 16), .inl (cI, 9, .inl un2))] := G.sub [0, 16, 1, 2, 3, 4, 5, 6, 7, 8, 9, 10, 11, 14, 15, 12, 13] (by decide) rfl
                refine lv_iconst (v := (nI 0)) hx hb d_TD_advance_55 (by decide) ?_
                exact z_ret X hrt hlk G (rfl) (Or.inr ⟨⟨h7, by omega, by omega⟩, nn, 0, p2, vi1, fa1, so1, dr1, br1, un2, dm2, hnx, by omega, hA _ _ (adv_s0 (by omega) ⟨p2, un2, dm2, Or.inl ⟨q38, rfl, rfl⟩⟩ (by decide)), rfl, Or.inr ⟨rfl, rfl⟩⟩) d_TD_advance_56
        have hl : lv_has ls 3 [(2, .int (nI 0)), (1, .int (nI nn)), (0, .ref (q 0))] := lv_sub hl [0, 2, 1] rfl
        exact lp _ 0 V p vi fa so dr br un dm (by omega) (hT h7) (fun h9 => absurd h9 (Nat.lt_irrefl 0)) (fun _ _ h9 => h9) (Nat.lt_succ_self _) _ _ _ G hl
      · skip
        refine lv_iconst (v := (-1)) hx hb d_TD_advance_21 (by decide) ?_
        exact z_ret X hrt hlk G (rfl) (Or.inl ⟨by first | exact fun h9 => h7 h9.1 | exact fun h9 => absurd h9.2 (by omega), rfl, rfl⟩) d_TD_advance_22
