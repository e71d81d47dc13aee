set_option maxHeartbeats 4000000 in
set_option maxRecDepth 100000 in
theorem m_within (l : Launch) (D : va_G) (cI : ClassId) (o : Nat → Nat) (cnt lv : Nat) (B : Bk) (dm od om be ke ch tr : Nat → Int32) (U V : Prop) (de vi fa so : Int32) (v lo hi : Int32) (li hI : Int) (hlo : lo.toInt = li) (hhi : hi.toInt = hI) : MR l y_MO_within b_MO_within 4 .boolean 0 D cI [.ref (o 0), .int v, .int lo, .int hi] [((o 0), .inr (5, [.int (nI cnt), .int (nI (B.1)), .int (nI lv), .ref (o 1), .ref (o 2), .ref (o 3), .ref (o 4), .ref (o 5), .ref (o 6), .ref (o 7), .ref (o 8), .int (bP (U)), .int (bP (V)), .int de, .int vi, .int fa, .int so, .ref (o 9), .ref (o 10), .ref (o 11), .ref (o 12)])), ((o 1), .inl (cI, 8, .inl dm)), ((o 2), .inl (cI, 16, .inl B.kd)), ((o 3), .inl (cI, 48, .inl B.mb)), ((o 4), .inl (cI, 16, .inl B.nu)), ((o 5), .inl (cI, 4, .inl B.sz)), ((o 6), .inl (cI, 144, .inl B.en)), ((o 7), .inl (cI, 80, .inl od)), ((o 8), .inl (cI, 10, .inl om)), ((o 9), .inl (cI, 8, .inl be)), ((o 10), .inl (cI, 8, .inl ke)), ((o 11), .inl (cI, 9, .inl ch)), ((o 12), .inl (cI, 9, .inl tr))] (bP (li ≤ v.toInt ∧ v.toInt ≤ hI)) := by
  refine MI.of (by decide) (Nat.le_of_ble_eq_true rfl) ?_
  intro zp ze zs zm zb zt zc ls A X hrt hlk G hl
  have hx := X.1
  have hb := X.2.1
  have hl : lv_has ls 4 [(0, .ref (o 0)), (1, .int v), (2, .int lo), (3, .int hi)] := hl
  refine lv_iload_n hx hb d_MO_within_0 rfl (lv_at hl 1 rfl) ?_
  refine lv_iload_n hx hb d_MO_within_1 rfl (lv_at hl 2 rfl) ?_
  refine zi_icmp_lt hx hb d_MO_within_2 rfl rfl hlo (fun h2 => ?_) (fun h2 => ?_)
  · skip
    refine lv_iconst (v := (nI 0)) hx hb d_MO_within_14 (by decide) ?_
    exact z_ret X hrt hlk G (rfl) (⟨bP_0 (by omega), rfl⟩) d_MO_within_15
  · skip
    refine lv_iload_n hx hb d_MO_within_5 rfl (lv_at hl 1 rfl) ?_
    refine lv_iload_n hx hb d_MO_within_6 rfl (lv_at hl 3 rfl) ?_
    refine zi_icmp_gt hx hb d_MO_within_7 rfl rfl hhi (fun h7 => ?_) (fun h7 => ?_)
    · skip
      refine lv_iconst (v := (nI 0)) hx hb d_MO_within_14 (by decide) ?_
      exact z_ret X hrt hlk G (rfl) (⟨bP_0 (by omega), rfl⟩) d_MO_within_15
    · skip
      refine lv_iconst (v := (nI 1)) hx hb d_MO_within_10 (by decide) ?_
      refine lv_goto hx hb d_MO_within_11 rfl ?_
      exact z_ret X hrt hlk G (rfl) (⟨bP_1 (by omega), rfl⟩) d_MO_within_15
set_option maxHeartbeats 4000000 in
set_option maxRecDepth 100000 in
theorem m_variable (l : Launch) (D : va_G) (cI : ClassId) (o : Nat → Nat) (cnt lv : Nat) (B : Bk) (dm od om be ke ch tr : Nat → Int32) (U V : Prop) (de vi fa so : Int32) (v : Int32) (hc8 : cnt ≤ 8) (hn16 : B.1 ≤ 16) (hlv : lv ≤ 10) : MI l y_MO_variable b_MO_variable 2 .int 1 D cI [.ref (o 0), .int v] [((o 0), .inr (5, [.int (nI cnt), .int (nI (B.1)), .int (nI lv), .ref (o 1), .ref (o 2), .ref (o 3), .ref (o 4), .ref (o 5), .ref (o 6), .ref (o 7), .ref (o 8), .int (bP (U)), .int (bP (V)), .int de, .int vi, .int fa, .int so, .ref (o 9), .ref (o 10), .ref (o 11), .ref (o 12)])), ((o 1), .inl (cI, 8, .inl dm)), ((o 2), .inl (cI, 16, .inl B.kd)), ((o 3), .inl (cI, 48, .inl B.mb)), ((o 4), .inl (cI, 16, .inl B.nu)), ((o 5), .inl (cI, 4, .inl B.sz)), ((o 6), .inl (cI, 144, .inl B.en)), ((o 7), .inl (cI, 80, .inl od)), ((o 8), .inl (cI, 10, .inl om)), ((o 9), .inl (cI, 8, .inl be)), ((o 10), .inl (cI, 8, .inl ke)), ((o 11), .inl (cI, 9, .inl ch)), ((o 12), .inl (cI, 9, .inl tr))] (fun r u => (((¬ U ∧ lv = 0) ∧ cnt ≠ 8 ∧ 1 ≤ v.toInt ∧ v.toInt ≤ 65535) ∧ r = nI cnt ∧ u = [((o 0), .inr (5, [.int (nI (cnt + 1)), .int (nI (B.1)), .int (nI lv), .ref (o 1), .ref (o 2), .ref (o 3), .ref (o 4), .ref (o 5), .ref (o 6), .ref (o 7), .ref (o 8), .int (bP (U)), .int (bP (V)), .int de, .int vi, .int fa, .int so, .ref (o 9), .ref (o 10), .ref (o 11), .ref (o 12)])), ((o 1), .inl (cI, 8, .inl (upd dm cnt v))), ((o 2), .inl (cI, 16, .inl B.kd)), ((o 3), .inl (cI, 48, .inl B.mb)), ((o 4), .inl (cI, 16, .inl B.nu)), ((o 5), .inl (cI, 4, .inl B.sz)), ((o 6), .inl (cI, 144, .inl B.en)), ((o 7), .inl (cI, 80, .inl od)), ((o 8), .inl (cI, 10, .inl om)), ((o 9), .inl (cI, 8, .inl be)), ((o 10), .inl (cI, 8, .inl ke)), ((o 11), .inl (cI, 9, .inl ch)), ((o 12), .inl (cI, 9, .inl tr))]) ∨ (¬ ((¬ U ∧ lv = 0) ∧ cnt ≠ 8 ∧ 1 ≤ v.toInt ∧ v.toInt ≤ 65535) ∧ r = -1 ∧ u = [((o 0), .inr (5, [.int (nI cnt), .int (nI (B.1)), .int (nI lv), .ref (o 1), .ref (o 2), .ref (o 3), .ref (o 4), .ref (o 5), .ref (o 6), .ref (o 7), .ref (o 8), .int (bP (U)), .int (bP (V)), .int de, .int vi, .int fa, .int so, .ref (o 9), .ref (o 10), .ref (o 11), .ref (o 12)])), ((o 1), .inl (cI, 8, .inl dm)), ((o 2), .inl (cI, 16, .inl B.kd)), ((o 3), .inl (cI, 48, .inl B.mb)), ((o 4), .inl (cI, 16, .inl B.nu)), ((o 5), .inl (cI, 4, .inl B.sz)), ((o 6), .inl (cI, 144, .inl B.en)), ((o 7), .inl (cI, 80, .inl od)), ((o 8), .inl (cI, 10, .inl om)), ((o 9), .inl (cI, 8, .inl be)), ((o 10), .inl (cI, 8, .inl ke)), ((o 11), .inl (cI, 9, .inl ch)), ((o 12), .inl (cI, 9, .inl tr))])) := by
  refine MI.of (by decide) (Nat.le_of_ble_eq_true rfl) ?_
  intro zp ze zs zm zb zt zc ls A X hrt hlk G hl
  have hx := X.1
  have hb := X.2.1
  have hl : lv_has ls 2 [(0, .ref (o 0)), (1, .int v)] := hl
  refine lv_aload_n hx hb d_MO_variable_0 rfl (lv_at hl 0 rfl) ?_
  refine gf_MO_46 X G 0 rfl rfl d_MO_variable_1 ?_
  refine zb_ne hx hb d_MO_variable_4 rfl (fun h4 => ?_) (fun h4 => ?_)
  · skip
    refine lv_iconst (v := (-1)) hx hb d_MO_variable_34 (by decide) ?_
    exact z_ret X hrt hlk G (rfl) (Or.inr ⟨by first | exact fun h9 => h9.1.1 h4 | exact fun h9 => absurd h9.1.2 (by omega) | exact fun h9 => absurd h9.2.1 (by omega) | exact fun h9 => h31 h9.2.2, rfl, rfl⟩) d_MO_variable_35
  · skip
    refine lv_aload_n hx hb d_MO_variable_7 rfl (lv_at hl 0 rfl) ?_
    refine gf_MO_50 X G 0 rfl rfl d_MO_variable_8 ?_
    refine zi_if_gt hx hb d_MO_variable_11 rfl (nI_toInt (by omega) : (nI lv).toInt = ((lv : Nat) : Int)) (fun h11 => ?_) (fun h11 => ?_)
    · skip
      refine lv_iconst (v := (-1)) hx hb d_MO_variable_34 (by decide) ?_
      exact z_ret X hrt hlk G (rfl) (Or.inr ⟨by first | exact fun h9 => h9.1.1 h4 | exact fun h9 => absurd h9.1.2 (by omega) | exact fun h9 => absurd h9.2.1 (by omega) | exact fun h9 => h31 h9.2.2, rfl, rfl⟩) d_MO_variable_35
    · skip
      refine lv_aload_n hx hb d_MO_variable_14 rfl (lv_at hl 0 rfl) ?_
      refine gf_MO_54 X G 0 rfl rfl d_MO_variable_15 ?_
      refine lv_bipush (v := (nI 8)) hx hb d_MO_variable_18 (by decide) ?_
      refine zi_icmp_eq hx hb d_MO_variable_20 rfl (nI_toInt (by omega) : (nI cnt).toInt = ((cnt : Nat) : Int)) (by decide : (nI 8).toInt = 8) (fun h20 => ?_) (fun h20 => ?_)
      · skip
        refine lv_iconst (v := (-1)) hx hb d_MO_variable_34 (by decide) ?_
        exact z_ret X hrt hlk G (rfl) (Or.inr ⟨by first | exact fun h9 => h9.1.1 h4 | exact fun h9 => absurd h9.1.2 (by omega) | exact fun h9 => absurd h9.2.1 (by omega) | exact fun h9 => h31 h9.2.2, rfl, rfl⟩) d_MO_variable_35
      · skip
        refine lv_aload_n hx hb d_MO_variable_23 rfl (lv_at hl 0 rfl) ?_
        refine lv_iload_n hx hb d_MO_variable_24 rfl (lv_at hl 1 rfl) ?_
        refine lv_iconst (v := (nI 1)) hx hb d_MO_variable_25 (by decide) ?_
        refine lv_ldc (v := (nI 65535)) hx hb X.2.2.2.1 (X.2.2.2.2.1 _ ct_MO_57) d_MO_variable_26 ?_
        refine zV_R X G (m_within l D cI o cnt lv B dm od om be ke ch tr U V de vi fa so v (nI 1) (nI 65535) 1 65535 (by decide) (by decide)) lk_MO_58 [0, 1, 2, 3, 4, 5, 6, 7, 8, 9, 10, 11, 12] rfl (by decide) 0 rfl rfl ⟨by decide, by decide⟩ ⟨Nat.zero_le _, Nat.zero_le _⟩ hl.1 rfl (Nat.le_of_ble_eq_true rfl) d_MO_variable_28 (fun H locs G => ?_)
        refine zb_ne hx hb d_MO_variable_31 rfl (fun h31 => ?_) (fun h31 => ?_)
        · skip
          refine lv_aload_n hx hb d_MO_variable_36 rfl (lv_at hl 0 rfl) ?_
          refine gf_MO_7 X G 0 rfl rfl d_MO_variable_37 ?_
          refine lv_aload_n hx hb d_MO_variable_40 rfl (lv_at hl 0 rfl) ?_
          refine gf_MO_54 X G 0 rfl rfl d_MO_variable_41 ?_
          refine lv_iload_n hx hb d_MO_variable_44 rfl (lv_at hl 1 rfl) ?_
          refine z_iast X G 1 rfl cnt (rfl) (by omega) (by decide) d_MO_variable_45 (fun H locs G => ?_)
          have G : Gw D A zs.heap H locs [((o 0), .inr (5, [.int (nI cnt), .int (nI (B.1)), .int (nI lv), .ref (o 1), .ref (o 2), .ref (o 3), .ref (o 4), .ref (o 5), .ref (o 6), .ref (o 7), .ref (o 8), .int (bP (U)), .int (bP (V)), .int de, .int vi, .int fa, .int so, .ref (o 9), .ref (o 10), .ref (o 11), .ref (o 12)])), ((o 1), .inl (cI, 8, .inl (upd dm cnt v))), ((o 2), .inl (cI, 16, .inl B.kd)), ((o 3), .inl (cI, 48, .inl B.mb)), ((o 4), .inl (cI, 16, .inl B.nu)), ((o 5), .inl (cI, 4, .inl B.sz)), ((o 6), .inl (cI, 144, .inl B.en)), ((o 7), .inl (cI, 80, .inl od)), ((o 8), .inl (cI, 10, .inl om)), ((o 9), .inl (cI, 8, .inl be)), ((o 10), .inl (cI, 8, .inl ke)), ((o 11), .inl (cI, 9, .inl ch)), ((o 12), .inl (cI, 9, .inl tr))] := G
          refine lv_aload_n hx hb d_MO_variable_46 rfl (lv_at hl 0 rfl) ?_
          refine lv_dup hx hb d_MO_variable_47 rfl ?_
          refine gf_MO_54 X G 0 rfl rfl d_MO_variable_48 ?_
          refine lv_iconst (v := (nI 1)) hx hb d_MO_variable_51 (by decide) ?_
          refine zn_add hx hb d_MO_variable_52 ?_
          refine pf_MO_54 X G 0 rfl (rfl) (rfl) (Nat.le_of_ble_eq_true rfl) d_MO_variable_53 (fun H locs G => ?_)
          have G : Gw D A zs.heap H locs [((o 0), .inr (5, [.int (nI (cnt + 1)), .int (nI (B.1)), .int (nI lv), .ref (o 1), .ref (o 2), .ref (o 3), .ref (o 4), .ref (o 5), .ref (o 6), .ref (o 7), .ref (o 8), .int (bP (U)), .int (bP (V)), .int de, .int vi, .int fa, .int so, .ref (o 9), .ref (o 10), .ref (o 11), .ref (o 12)])), ((o 1), .inl (cI, 8, .inl (upd dm cnt v))), ((o 2), .inl (cI, 16, .inl B.kd)), ((o 3), .inl (cI, 48, .inl B.mb)), ((o 4), .inl (cI, 16, .inl B.nu)), ((o 5), .inl (cI, 4, .inl B.sz)), ((o 6), .inl (cI, 144, .inl B.en)), ((o 7), .inl (cI, 80, .inl od)), ((o 8), .inl (cI, 10, .inl om)), ((o 9), .inl (cI, 8, .inl be)), ((o 10), .inl (cI, 8, .inl ke)), ((o 11), .inl (cI, 9, .inl ch)), ((o 12), .inl (cI, 9, .inl tr))] := G
          refine lv_aload_n hx hb d_MO_variable_56 rfl (lv_at hl 0 rfl) ?_
          refine gf_MO_54 X G 0 rfl rfl d_MO_variable_57 ?_
          refine lv_iconst (v := (nI 1)) hx hb d_MO_variable_60 (by decide) ?_
          refine zn_sub hx hb (by omega) d_MO_variable_61 ?_
          exact z_ret X hrt hlk G (rfl) (Or.inl ⟨⟨⟨h4, by omega⟩, by omega, h31⟩, by rw [show cnt + 1 - 1 = cnt by omega], rfl⟩) d_MO_variable_62
        · skip
          refine lv_iconst (v := (-1)) hx hb d_MO_variable_34 (by decide) ?_
          exact z_ret X hrt hlk G (rfl) (Or.inr ⟨by first | exact fun h9 => h9.1.1 h4 | exact fun h9 => absurd h9.1.2 (by omega) | exact fun h9 => absurd h9.2.1 (by omega) | exact fun h9 => h31 h9.2.2, rfl, rfl⟩) d_MO_variable_35
set_option maxHeartbeats 4000000 in
set_option maxRecDepth 100000 in
theorem m_entry (l : Launch) (D : va_G) (cI : ClassId) (o : Nat → Nat) (cnt lv : Nat) (B : Bk) (dm od om be ke ch tr : Nat → Int32) (U V : Prop) (de vi fa so : Int32) (x a b c : Int32) (hB : BOk cnt B) (hlv : lv ≤ 10) : MI l y_MO_entry b_MO_entry 6 .boolean 1 D cI [.ref (o 0), .int x, .int a, .int b, .int c] [((o 0), .inr (5, [.int (nI cnt), .int (nI (B.1)), .int (nI lv), .ref (o 1), .ref (o 2), .ref (o 3), .ref (o 4), .ref (o 5), .ref (o 6), .ref (o 7), .ref (o 8), .int (bP (U)), .int (bP (V)), .int de, .int vi, .int fa, .int so, .ref (o 9), .ref (o 10), .ref (o 11), .ref (o 12)])), ((o 1), .inl (cI, 8, .inl dm)), ((o 2), .inl (cI, 16, .inl B.kd)), ((o 3), .inl (cI, 48, .inl B.mb)), ((o 4), .inl (cI, 16, .inl B.nu)), ((o 5), .inl (cI, 4, .inl B.sz)), ((o 6), .inl (cI, 144, .inl B.en)), ((o 7), .inl (cI, 80, .inl od)), ((o 8), .inl (cI, 10, .inl om)), ((o 9), .inl (cI, 8, .inl be)), ((o 10), .inl (cI, 8, .inl ke)), ((o 11), .inl (cI, 9, .inl ch)), ((o 12), .inl (cI, 9, .inl tr))] (fun r u => (((¬ U ∧ lv = 0) ∧ (∃ rr, rr < 4 ∧ x = nI rr ∧ ¬ (∃ k, k < B.1 ∧ B.kd k = 3 ∧ B.nu k = nI rr) ∧ ¬ (B.sz rr).toInt = 12) ∧ (-1 ≤ a.toInt ∧ a.toInt < 16) ∧ (-1 ≤ b.toInt ∧ b.toInt < 16) ∧ (-1 ≤ c.toInt ∧ c.toInt < 16)) ∧ r = 1 ∧ ∃ rr, rr < 4 ∧ x = nI rr ∧ u = [((o 0), .inr (5, [.int (nI cnt), .int (nI ((enB B rr a b c).1)), .int (nI lv), .ref (o 1), .ref (o 2), .ref (o 3), .ref (o 4), .ref (o 5), .ref (o 6), .ref (o 7), .ref (o 8), .int (bP (U)), .int (bP (V)), .int de, .int vi, .int fa, .int so, .ref (o 9), .ref (o 10), .ref (o 11), .ref (o 12)])), ((o 1), .inl (cI, 8, .inl dm)), ((o 2), .inl (cI, 16, .inl ((enB B rr a b c).kd))), ((o 3), .inl (cI, 48, .inl ((enB B rr a b c).mb))), ((o 4), .inl (cI, 16, .inl ((enB B rr a b c).nu))), ((o 5), .inl (cI, 4, .inl ((enB B rr a b c).sz))), ((o 6), .inl (cI, 144, .inl ((enB B rr a b c).en))), ((o 7), .inl (cI, 80, .inl od)), ((o 8), .inl (cI, 10, .inl om)), ((o 9), .inl (cI, 8, .inl be)), ((o 10), .inl (cI, 8, .inl ke)), ((o 11), .inl (cI, 9, .inl ch)), ((o 12), .inl (cI, 9, .inl tr))]) ∨ (¬ ((¬ U ∧ lv = 0) ∧ (∃ rr, rr < 4 ∧ x = nI rr ∧ ¬ (∃ k, k < B.1 ∧ B.kd k = 3 ∧ B.nu k = nI rr) ∧ ¬ (B.sz rr).toInt = 12) ∧ (-1 ≤ a.toInt ∧ a.toInt < 16) ∧ (-1 ≤ b.toInt ∧ b.toInt < 16) ∧ (-1 ≤ c.toInt ∧ c.toInt < 16)) ∧ r = 0 ∧ u = [((o 0), .inr (5, [.int (nI cnt), .int (nI (B.1)), .int (nI lv), .ref (o 1), .ref (o 2), .ref (o 3), .ref (o 4), .ref (o 5), .ref (o 6), .ref (o 7), .ref (o 8), .int (bP (U)), .int (bP (V)), .int de, .int vi, .int fa, .int so, .ref (o 9), .ref (o 10), .ref (o 11), .ref (o 12)])), ((o 1), .inl (cI, 8, .inl dm)), ((o 2), .inl (cI, 16, .inl B.kd)), ((o 3), .inl (cI, 48, .inl B.mb)), ((o 4), .inl (cI, 16, .inl B.nu)), ((o 5), .inl (cI, 4, .inl B.sz)), ((o 6), .inl (cI, 144, .inl B.en)), ((o 7), .inl (cI, 80, .inl od)), ((o 8), .inl (cI, 10, .inl om)), ((o 9), .inl (cI, 8, .inl be)), ((o 10), .inl (cI, 8, .inl ke)), ((o 11), .inl (cI, 9, .inl ch)), ((o 12), .inl (cI, 9, .inl tr))])) := by
  refine MI.of (by decide) (Nat.le_of_ble_eq_true rfl) ?_
  intro zp ze zs zm zb zt zc ls A X hrt hlk G hl
  have hx := X.1
  have hb := X.2.1
  have hl : lv_has ls 6 [(0, .ref (o 0)), (1, .int x), (2, .int a), (3, .int b), (4, .int c)] := hl
  have hc8 := hB.1
  have hn16 := hB.2.1
  refine lv_aload_n hx hb d_MO_entry_0 rfl (lv_at hl 0 rfl) ?_
  refine gf_MO_46 X G 0 rfl rfl d_MO_entry_1 ?_
  refine zb_ne hx hb d_MO_entry_4 rfl (fun h4 => ?_) (fun h4 => ?_)
  · skip
    refine lv_iconst (v := (nI 0)) hx hb d_MO_entry_58 (by decide) ?_
    exact z_ret X hrt hlk G (rfl) (Or.inr ⟨by first | exact fun h9 => h9.1.1 h4 | exact fun h9 => absurd h9.1.2 (by omega) | (rintro ⟨_, ⟨r9, hr9, e9, _⟩, _⟩; exact h21 (by rw [e9, nI_toInt (by omega)]; omega)) | exact fun h9 => h32 (by have := h9.2.2.1; omega) | exact fun h9 => h43 (by have := h9.2.2.2.1; omega) | exact fun h9 => h55 (by have := h9.2.2.2.2; omega), rfl, rfl⟩) d_MO_entry_59
  · skip
    refine lv_aload_n hx hb d_MO_entry_7 rfl (lv_at hl 0 rfl) ?_
    refine gf_MO_50 X G 0 rfl rfl d_MO_entry_8 ?_
    refine zi_if_gt hx hb d_MO_entry_11 rfl (nI_toInt (by omega) : (nI lv).toInt = ((lv : Nat) : Int)) (fun h11 => ?_) (fun h11 => ?_)
    · skip
      refine lv_iconst (v := (nI 0)) hx hb d_MO_entry_58 (by decide) ?_
      exact z_ret X hrt hlk G (rfl) (Or.inr ⟨by first | exact fun h9 => h9.1.1 h4 | exact fun h9 => absurd h9.1.2 (by omega) | (rintro ⟨_, ⟨r9, hr9, e9, _⟩, _⟩; exact h21 (by rw [e9, nI_toInt (by omega)]; omega)) | exact fun h9 => h32 (by have := h9.2.2.1; omega) | exact fun h9 => h43 (by have := h9.2.2.2.1; omega) | exact fun h9 => h55 (by have := h9.2.2.2.2; omega), rfl, rfl⟩) d_MO_entry_59
    · skip
      refine lv_aload_n hx hb d_MO_entry_14 rfl (lv_at hl 0 rfl) ?_
      refine lv_iload_n hx hb d_MO_entry_15 rfl (lv_at hl 1 rfl) ?_
      refine lv_iconst (v := (nI 0)) hx hb d_MO_entry_16 (by decide) ?_
      refine lv_iconst (v := (nI 3)) hx hb d_MO_entry_17 (by decide) ?_
      refine zV_R X G (m_within l D cI o cnt lv B dm od om be ke ch tr U V de vi fa so x (nI 0) (nI 3) 0 3 (by decide) (by decide)) lk_MO_58 [0, 1, 2, 3, 4, 5, 6, 7, 8, 9, 10, 11, 12] rfl (by decide) 0 rfl rfl ⟨by decide, by decide⟩ ⟨Nat.zero_le _, Nat.zero_le _⟩ hl.1 rfl (Nat.le_of_ble_eq_true rfl) d_MO_entry_18 (fun H locs G => ?_)
      refine zb_eq hx hb d_MO_entry_21 rfl (fun h21 => ?_) (fun h21 => ?_)
      · skip
        refine lv_iconst (v := (nI 0)) hx hb d_MO_entry_58 (by decide) ?_
        exact z_ret X hrt hlk G (rfl) (Or.inr ⟨by first | exact fun h9 => h9.1.1 h4 | exact fun h9 => absurd h9.1.2 (by omega) | (rintro ⟨_, ⟨r9, hr9, e9, _⟩, _⟩; exact h21 (by rw [e9, nI_toInt (by omega)]; omega)) | exact fun h9 => h32 (by have := h9.2.2.1; omega) | exact fun h9 => h43 (by have := h9.2.2.2.1; omega) | exact fun h9 => h55 (by have := h9.2.2.2.2; omega), rfl, rfl⟩) d_MO_entry_59
      · skip
        refine lv_aload_n hx hb d_MO_entry_24 rfl (lv_at hl 0 rfl) ?_
        refine lv_iload_n hx hb d_MO_entry_25 rfl (lv_at hl 2 rfl) ?_
        refine lv_iconst (v := (-1)) hx hb d_MO_entry_26 (by decide) ?_
        refine lv_bipush (v := (nI 15)) hx hb d_MO_entry_27 (by decide) ?_
        refine zV_R X G (m_within l D cI o cnt lv B dm od om be ke ch tr U V de vi fa so a (-1) (nI 15) (-1) 15 (by decide) (by decide)) lk_MO_58 [0, 1, 2, 3, 4, 5, 6, 7, 8, 9, 10, 11, 12] rfl (by decide) 0 rfl rfl ⟨by decide, by decide⟩ ⟨Nat.zero_le _, Nat.zero_le _⟩ hl.1 rfl (Nat.le_of_ble_eq_true rfl) d_MO_entry_29 (fun H locs G => ?_)
        refine zb_eq hx hb d_MO_entry_32 rfl (fun h32 => ?_) (fun h32 => ?_)
        · skip
          refine lv_iconst (v := (nI 0)) hx hb d_MO_entry_58 (by decide) ?_
          exact z_ret X hrt hlk G (rfl) (Or.inr ⟨by first | exact fun h9 => h9.1.1 h4 | exact fun h9 => absurd h9.1.2 (by omega) | (rintro ⟨_, ⟨r9, hr9, e9, _⟩, _⟩; exact h21 (by rw [e9, nI_toInt (by omega)]; omega)) | exact fun h9 => h32 (by have := h9.2.2.1; omega) | exact fun h9 => h43 (by have := h9.2.2.2.1; omega) | exact fun h9 => h55 (by have := h9.2.2.2.2; omega), rfl, rfl⟩) d_MO_entry_59
        · skip
          refine lv_aload_n hx hb d_MO_entry_35 rfl (lv_at hl 0 rfl) ?_
          refine lv_iload_n hx hb d_MO_entry_36 rfl (lv_at hl 3 rfl) ?_
          refine lv_iconst (v := (-1)) hx hb d_MO_entry_37 (by decide) ?_
          refine lv_bipush (v := (nI 15)) hx hb d_MO_entry_38 (by decide) ?_
          refine zV_R X G (m_within l D cI o cnt lv B dm od om be ke ch tr U V de vi fa so b (-1) (nI 15) (-1) 15 (by decide) (by decide)) lk_MO_58 [0, 1, 2, 3, 4, 5, 6, 7, 8, 9, 10, 11, 12] rfl (by decide) 0 rfl rfl ⟨by decide, by decide⟩ ⟨Nat.zero_le _, Nat.zero_le _⟩ hl.1 rfl (Nat.le_of_ble_eq_true rfl) d_MO_entry_40 (fun H locs G => ?_)
          refine zb_eq hx hb d_MO_entry_43 rfl (fun h43 => ?_) (fun h43 => ?_)
          · skip
            refine lv_iconst (v := (nI 0)) hx hb d_MO_entry_58 (by decide) ?_
            exact z_ret X hrt hlk G (rfl) (Or.inr ⟨by first | exact fun h9 => h9.1.1 h4 | exact fun h9 => absurd h9.1.2 (by omega) | (rintro ⟨_, ⟨r9, hr9, e9, _⟩, _⟩; exact h21 (by rw [e9, nI_toInt (by omega)]; omega)) | exact fun h9 => h32 (by have := h9.2.2.1; omega) | exact fun h9 => h43 (by have := h9.2.2.2.1; omega) | exact fun h9 => h55 (by have := h9.2.2.2.2; omega), rfl, rfl⟩) d_MO_entry_59
          · skip
            refine lv_aload_n hx hb d_MO_entry_46 rfl (lv_at hl 0 rfl) ?_
            refine lv_iload hx hb d_MO_entry_47 (lv_at hl 4 rfl) ?_
            refine lv_iconst (v := (-1)) hx hb d_MO_entry_49 (by decide) ?_
            refine lv_bipush (v := (nI 15)) hx hb d_MO_entry_50 (by decide) ?_
            refine zV_R X G (m_within l D cI o cnt lv B dm od om be ke ch tr U V de vi fa so c (-1) (nI 15) (-1) 15 (by decide) (by decide)) lk_MO_58 [0, 1, 2, 3, 4, 5, 6, 7, 8, 9, 10, 11, 12] rfl (by decide) 0 rfl rfl ⟨by decide, by decide⟩ ⟨Nat.zero_le _, Nat.zero_le _⟩ hl.1 rfl (Nat.le_of_ble_eq_true rfl) d_MO_entry_52 (fun H locs G => ?_)
            refine zb_ne hx hb d_MO_entry_55 rfl (fun h55 => ?_) (fun h55 => ?_)
            · skip
              obtain ⟨rr, hr4, hxr⟩ := nI_ex (k := 4) (v := x) (by omega) (by omega) (by decide)
              rw [hxr] at hl
              have hls := hB.ls hr4
              refine lv_iconst (v := (nI 0)) hx hb d_MO_entry_60 (by decide) ?_
              refine lv_istore hx hb d_MO_entry_61 hl (by decide) rfl (fun ls hl => ?_)
              have hl : lv_has ls 6 [(5, .int (nI 0)), (0, .ref (o 0)), (1, .int (nI rr)), (2, .int a), (3, .int b), (4, .int c)] := hl
              have lp : ∀ (fu : Nat) (k : Nat) (hkn : k ≤ B.1) (hno : ∀ a, a < k → ¬ (B.kd a = 3 ∧ B.nu a = nI rr)) (hfu : B.1 - k < fu) (H : Heap) (locs : List Loc) (ls : Array Slot), Gw D A zs.heap H locs [((o 0), .inr (5, [.int (nI cnt), .int (nI (B.1)), .int (nI lv), .ref (o 1), .ref (o 2), .ref (o 3), .ref (o 4), .ref (o 5), .ref (o 6), .ref (o 7), .ref (o 8), .int (bP (U)), .int (bP (V)), .int de, .int vi, .int fa, .int so, .ref (o 9), .ref (o 10), .ref (o 11), .ref (o 12)])), ((o 1), .inl (cI, 8, .inl dm)), ((o 2), .inl (cI, 16, .inl B.kd)), ((o 3), .inl (cI, 48, .inl B.mb)), ((o 4), .inl (cI, 16, .inl B.nu)), ((o 5), .inl (cI, 4, .inl B.sz)), ((o 6), .inl (cI, 144, .inl B.en)), ((o 7), .inl (cI, 80, .inl od)), ((o 8), .inl (cI, 10, .inl om)), ((o 9), .inl (cI, 8, .inl be)), ((o 10), .inl (cI, 8, .inl ke)), ((o 11), .inl (cI, 9, .inl ch)), ((o 12), .inl (cI, 9, .inl tr))] → lv_has ls 6 [(5, .int (nI k)), (0, .ref (o 0)), (1, .int (nI rr)), (2, .int a), (3, .int b), (4, .int c)] → W zp l ze (zr 1) zs zm ([.ref (o 0), .int x, .int a, .int b, .int c] : List Value).toArray zb zt zc H locs 0 0 (ZI D zb ([.ref (o 0), .int x, .int a, .int b, .int c] : List Value) zs A (fun r u => (((¬ U ∧ lv = 0) ∧ (∃ rr, rr < 4 ∧ x = nI rr ∧ ¬ (∃ k, k < B.1 ∧ B.kd k = 3 ∧ B.nu k = nI rr) ∧ ¬ (B.sz rr).toInt = 12) ∧ (-1 ≤ a.toInt ∧ a.toInt < 16) ∧ (-1 ≤ b.toInt ∧ b.toInt < 16) ∧ (-1 ≤ c.toInt ∧ c.toInt < 16)) ∧ r = 1 ∧ ∃ rr, rr < 4 ∧ x = nI rr ∧ u = [((o 0), .inr (5, [.int (nI cnt), .int (nI ((enB B rr a b c).1)), .int (nI lv), .ref (o 1), .ref (o 2), .ref (o 3), .ref (o 4), .ref (o 5), .ref (o 6), .ref (o 7), .ref (o 8), .int (bP (U)), .int (bP (V)), .int de, .int vi, .int fa, .int so, .ref (o 9), .ref (o 10), .ref (o 11), .ref (o 12)])), ((o 1), .inl (cI, 8, .inl dm)), ((o 2), .inl (cI, 16, .inl ((enB B rr a b c).kd))), ((o 3), .inl (cI, 48, .inl ((enB B rr a b c).mb))), ((o 4), .inl (cI, 16, .inl ((enB B rr a b c).nu))), ((o 5), .inl (cI, 4, .inl ((enB B rr a b c).sz))), ((o 6), .inl (cI, 144, .inl ((enB B rr a b c).en))), ((o 7), .inl (cI, 80, .inl od)), ((o 8), .inl (cI, 10, .inl om)), ((o 9), .inl (cI, 8, .inl be)), ((o 10), .inl (cI, 8, .inl ke)), ((o 11), .inl (cI, 9, .inl ch)), ((o 12), .inl (cI, 9, .inl tr))]) ∨ (¬ ((¬ U ∧ lv = 0) ∧ (∃ rr, rr < 4 ∧ x = nI rr ∧ ¬ (∃ k, k < B.1 ∧ B.kd k = 3 ∧ B.nu k = nI rr) ∧ ¬ (B.sz rr).toInt = 12) ∧ (-1 ≤ a.toInt ∧ a.toInt < 16) ∧ (-1 ≤ b.toInt ∧ b.toInt < 16) ∧ (-1 ≤ c.toInt ∧ c.toInt < 16)) ∧ r = 0 ∧ u = [((o 0), .inr (5, [.int (nI cnt), .int (nI (B.1)), .int (nI lv), .ref (o 1), .ref (o 2), .ref (o 3), .ref (o 4), .ref (o 5), .ref (o 6), .ref (o 7), .ref (o 8), .int (bP (U)), .int (bP (V)), .int de, .int vi, .int fa, .int so, .ref (o 9), .ref (o 10), .ref (o 11), .ref (o 12)])), ((o 1), .inl (cI, 8, .inl dm)), ((o 2), .inl (cI, 16, .inl B.kd)), ((o 3), .inl (cI, 48, .inl B.mb)), ((o 4), .inl (cI, 16, .inl B.nu)), ((o 5), .inl (cI, 4, .inl B.sz)), ((o 6), .inl (cI, 144, .inl B.en)), ((o 7), .inl (cI, 80, .inl od)), ((o 8), .inl (cI, 10, .inl om)), ((o 9), .inl (cI, 8, .inl be)), ((o 10), .inl (cI, 8, .inl ke)), ((o 11), .inl (cI, 9, .inl ch)), ((o 12), .inl (cI, 9, .inl tr))]))) (F0 zm 63 ls []) := by
                intro fu
                induction fu with
                | zero => intro k hkn hno hfu; exact absurd hfu (Nat.not_lt_zero _)
                | succ fu lp =>
                  intro k hkn hno hfu H locs ls G hl
                  refine lv_iload hx hb d_MO_entry_63 (lv_at hl 0 rfl) ?_
                  refine lv_aload_n hx hb d_MO_entry_65 rfl (lv_at hl 1 rfl) ?_
                  refine gf_MO_62 X G 0 rfl rfl d_MO_entry_66 ?_
                  refine zi_icmp_ge hx hb d_MO_entry_69 rfl (nI_toInt (by omega) : (nI k).toInt = ((k : Nat) : Int)) (nI_toInt (by omega) : (nI B.1).toInt = ((B.1 : Nat) : Int)) (fun h69 => ?_) (fun h69 => ?_)
                  · skip
                    refine lv_aload_n hx hb d_MO_entry_102 rfl (lv_at hl 1 rfl) ?_
                    refine gf_MO_22 X G 0 rfl rfl d_MO_entry_103 ?_
                    refine lv_iload_n hx hb d_MO_entry_106 rfl (lv_at hl 2 rfl) ?_
                    refine z_iald X G 5 rfl rr (rfl) (by omega) (by decide) d_MO_entry_107 ?_
                    refine z_top (nI (B.ls rr)) (hls.1) ?_
                    refine lv_bipush (v := (nI 12)) hx hb d_MO_entry_108 (by decide) ?_
                    refine zi_icmp_ne hx hb d_MO_entry_110 rfl (nI_toInt (by omega) : (nI (B.ls rr)).toInt = ((B.ls rr : Nat) : Int)) (by decide : (nI 12).toInt = 12) (fun h110 => ?_) (fun h110 => ?_)
                    · skip
                      refine lv_bipush (v := (nI 36)) hx hb d_MO_entry_115 (by decide) ?_
                      refine lv_iload_n hx hb d_MO_entry_117 rfl (lv_at hl 2 rfl) ?_
                      refine zn_mul hx hb d_MO_entry_118 ?_
                      refine lv_iconst (v := (nI 3)) hx hb d_MO_entry_119 (by decide) ?_
                      refine lv_aload_n hx hb d_MO_entry_120 rfl (lv_at hl 1 rfl) ?_
                      refine gf_MO_22 X G 0 rfl rfl d_MO_entry_121 ?_
                      refine lv_iload_n hx hb d_MO_entry_124 rfl (lv_at hl 2 rfl) ?_
                      refine z_iald X G 5 rfl rr (rfl) (by omega) (by decide) d_MO_entry_125 ?_
                      refine z_top (nI (B.ls rr)) (hls.1) ?_
                      refine zn_mul hx hb d_MO_entry_126 ?_
                      refine zn_add hx hb d_MO_entry_127 ?_
                      refine lv_istore hx hb d_MO_entry_128 hl (by decide) rfl (fun ls hl => ?_)
                      have hl : lv_has ls 6 [(5, .int (nI ((36 * rr) + (3 * (B.ls rr))))), (0, .ref (o 0)), (1, .int (nI rr)), (2, .int a), (3, .int b), (4, .int c)] := hl
                      refine lv_aload_n hx hb d_MO_entry_130 rfl (lv_at hl 1 rfl) ?_
                      refine gf_MO_25 X G 0 rfl rfl d_MO_entry_131 ?_
                      refine lv_iload hx hb d_MO_entry_134 (lv_at hl 0 rfl) ?_
                      refine lv_iload_n hx hb d_MO_entry_136 rfl (lv_at hl 3 rfl) ?_
                      refine z_iast X G 6 rfl ((36 * rr) + (3 * (B.ls rr))) (rfl) (by omega) (by decide) d_MO_entry_137 (fun H locs G => ?_)
                      have G : Gw D A zs.heap H locs [((o 0), .inr (5, [.int (nI cnt), .int (nI (B.1)), .int (nI lv), .ref (o 1), .ref (o 2), .ref (o 3), .ref (o 4), .ref (o 5), .ref (o 6), .ref (o 7), .ref (o 8), .int (bP (U)), .int (bP (V)), .int de, .int vi, .int fa, .int so, .ref (o 9), .ref (o 10), .ref (o 11), .ref (o 12)])), ((o 1), .inl (cI, 8, .inl dm)), ((o 2), .inl (cI, 16, .inl B.kd)), ((o 3), .inl (cI, 48, .inl B.mb)), ((o 4), .inl (cI, 16, .inl B.nu)), ((o 5), .inl (cI, 4, .inl B.sz)), ((o 6), .inl (cI, 144, .inl (upd B.en ((36 * rr) + (3 * (B.ls rr))) a))), ((o 7), .inl (cI, 80, .inl od)), ((o 8), .inl (cI, 10, .inl om)), ((o 9), .inl (cI, 8, .inl be)), ((o 10), .inl (cI, 8, .inl ke)), ((o 11), .inl (cI, 9, .inl ch)), ((o 12), .inl (cI, 9, .inl tr))] := G
                      refine lv_aload_n hx hb d_MO_entry_138 rfl (lv_at hl 1 rfl) ?_
                      refine gf_MO_25 X G 0 rfl rfl d_MO_entry_139 ?_
                      refine lv_iload hx hb d_MO_entry_142 (lv_at hl 0 rfl) ?_
                      refine lv_iconst (v := (nI 1)) hx hb d_MO_entry_144 (by decide) ?_
                      refine zn_add hx hb d_MO_entry_145 ?_
                      refine lv_iload_n hx hb d_MO_entry_146 rfl (lv_at hl 4 rfl) ?_
                      refine z_iast X G 6 rfl (((36 * rr) + (3 * (B.ls rr))) + 1) (rfl) (by omega) (by decide) d_MO_entry_147 (fun H locs G => ?_)
                      have G : Gw D A zs.heap H locs [((o 0), .inr (5, [.int (nI cnt), .int (nI (B.1)), .int (nI lv), .ref (o 1), .ref (o 2), .ref (o 3), .ref (o 4), .ref (o 5), .ref (o 6), .ref (o 7), .ref (o 8), .int (bP (U)), .int (bP (V)), .int de, .int vi, .int fa, .int so, .ref (o 9), .ref (o 10), .ref (o 11), .ref (o 12)])), ((o 1), .inl (cI, 8, .inl dm)), ((o 2), .inl (cI, 16, .inl B.kd)), ((o 3), .inl (cI, 48, .inl B.mb)), ((o 4), .inl (cI, 16, .inl B.nu)), ((o 5), .inl (cI, 4, .inl B.sz)), ((o 6), .inl (cI, 144, .inl (upd (upd B.en ((36 * rr) + (3 * (B.ls rr))) a) (((36 * rr) + (3 * (B.ls rr))) + 1) b))), ((o 7), .inl (cI, 80, .inl od)), ((o 8), .inl (cI, 10, .inl om)), ((o 9), .inl (cI, 8, .inl be)), ((o 10), .inl (cI, 8, .inl ke)), ((o 11), .inl (cI, 9, .inl ch)), ((o 12), .inl (cI, 9, .inl tr))] := G
                      refine lv_aload_n hx hb d_MO_entry_148 rfl (lv_at hl 1 rfl) ?_
                      refine gf_MO_25 X G 0 rfl rfl d_MO_entry_149 ?_
                      refine lv_iload hx hb d_MO_entry_152 (lv_at hl 0 rfl) ?_
                      refine lv_iconst (v := (nI 2)) hx hb d_MO_entry_154 (by decide) ?_
                      refine zn_add hx hb d_MO_entry_155 ?_
                      refine lv_iload hx hb d_MO_entry_156 (lv_at hl 5 rfl) ?_
                      refine z_iast X G 6 rfl (((36 * rr) + (3 * (B.ls rr))) + 2) (rfl) (by omega) (by decide) d_MO_entry_158 (fun H locs G => ?_)
                      have G : Gw D A zs.heap H locs [((o 0), .inr (5, [.int (nI cnt), .int (nI (B.1)), .int (nI lv), .ref (o 1), .ref (o 2), .ref (o 3), .ref (o 4), .ref (o 5), .ref (o 6), .ref (o 7), .ref (o 8), .int (bP (U)), .int (bP (V)), .int de, .int vi, .int fa, .int so, .ref (o 9), .ref (o 10), .ref (o 11), .ref (o 12)])), ((o 1), .inl (cI, 8, .inl dm)), ((o 2), .inl (cI, 16, .inl B.kd)), ((o 3), .inl (cI, 48, .inl B.mb)), ((o 4), .inl (cI, 16, .inl B.nu)), ((o 5), .inl (cI, 4, .inl B.sz)), ((o 6), .inl (cI, 144, .inl (upd (upd (upd B.en ((36 * rr) + (3 * (B.ls rr))) a) (((36 * rr) + (3 * (B.ls rr))) + 1) b) (((36 * rr) + (3 * (B.ls rr))) + 2) c))), ((o 7), .inl (cI, 80, .inl od)), ((o 8), .inl (cI, 10, .inl om)), ((o 9), .inl (cI, 8, .inl be)), ((o 10), .inl (cI, 8, .inl ke)), ((o 11), .inl (cI, 9, .inl ch)), ((o 12), .inl (cI, 9, .inl tr))] := G
                      refine lv_aload_n hx hb d_MO_entry_159 rfl (lv_at hl 1 rfl) ?_
                      refine gf_MO_22 X G 0 rfl rfl d_MO_entry_160 ?_
                      refine lv_iload_n hx hb d_MO_entry_163 rfl (lv_at hl 2 rfl) ?_
                      refine lv_dup2_11 hx hb d_MO_entry_164 rfl rfl ?_
                      refine z_iald X G 5 rfl rr (rfl) (by omega) (by decide) d_MO_entry_165 ?_
                      refine z_top (nI (B.ls rr)) (hls.1) ?_
                      refine lv_iconst (v := (nI 1)) hx hb d_MO_entry_166 (by decide) ?_
                      refine zn_add hx hb d_MO_entry_167 ?_
                      refine z_iast X G 5 rfl rr (rfl) (by omega) (by decide) d_MO_entry_168 (fun H locs G => ?_)
                      have G : Gw D A zs.heap H locs [((o 0), .inr (5, [.int (nI cnt), .int (nI (B.1)), .int (nI lv), .ref (o 1), .ref (o 2), .ref (o 3), .ref (o 4), .ref (o 5), .ref (o 6), .ref (o 7), .ref (o 8), .int (bP (U)), .int (bP (V)), .int de, .int vi, .int fa, .int so, .ref (o 9), .ref (o 10), .ref (o 11), .ref (o 12)])), ((o 1), .inl (cI, 8, .inl dm)), ((o 2), .inl (cI, 16, .inl B.kd)), ((o 3), .inl (cI, 48, .inl B.mb)), ((o 4), .inl (cI, 16, .inl B.nu)), ((o 5), .inl (cI, 4, .inl (upd B.sz rr (nI ((B.ls rr) + 1))))), ((o 6), .inl (cI, 144, .inl (upd (upd (upd B.en ((36 * rr) + (3 * (B.ls rr))) a) (((36 * rr) + (3 * (B.ls rr))) + 1) b) (((36 * rr) + (3 * (B.ls rr))) + 2) c))), ((o 7), .inl (cI, 80, .inl od)), ((o 8), .inl (cI, 10, .inl om)), ((o 9), .inl (cI, 8, .inl be)), ((o 10), .inl (cI, 8, .inl ke)), ((o 11), .inl (cI, 9, .inl ch)), ((o 12), .inl (cI, 9, .inl tr))] := G
                      refine lv_iconst (v := (nI 1)) hx hb d_MO_entry_169 (by decide) ?_
                      exact z_ret X hrt hlk G (rfl) (Or.inl ⟨⟨⟨h4, by omega⟩, ⟨rr, hr4, hxr, fun ⟨k9, a9, b9⟩ => hno k9 (by omega) b9, by rw [hls.1, nI_toInt (by omega)]; omega⟩, ⟨by omega, by omega⟩, ⟨by omega, by omega⟩, ⟨by omega, by omega⟩⟩, rfl, rr, hr4, hxr, rfl⟩) d_MO_entry_170
                    · skip
                      refine lv_iconst (v := (nI 0)) hx hb d_MO_entry_113 (by decide) ?_
                      have hs12 : (B.sz rr).toInt = 12 := by rw [hls.1, nI_toInt (by omega)]; omega
                      exact z_ret X hrt hlk G (rfl) (Or.inr ⟨fun ⟨_, ⟨r9, hr9, e9, g9, f9⟩, _⟩ => by have e8 : r9 = rr := (nI_eq (by omega) (by omega)).mp (e9.symm.trans hxr); subst e8; exact f9 hs12, rfl, rfl⟩) d_MO_entry_114
                  · skip
                    refine lv_aload_n hx hb d_MO_entry_72 rfl (lv_at hl 1 rfl) ?_
                    refine gf_MO_13 X G 0 rfl rfl d_MO_entry_73 ?_
                    refine lv_iload hx hb d_MO_entry_76 (lv_at hl 0 rfl) ?_
                    refine z_iald X G 2 rfl k (rfl) (by omega) (by decide) d_MO_entry_78 ?_
                    refine lv_iconst (v := (nI 3)) hx hb d_MO_entry_79 (by decide) ?_
                    refine zi_icmp_ne hx hb d_MO_entry_80 rfl rfl (by decide : (nI 3).toInt = 3) (fun h80 => ?_) (fun h80 => ?_)
                    · skip
                      have hz : ¬ (B.kd k = 3 ∧ B.nu k = nI rr) := fun h9 => h80 (by rw [h9.1]; decide)
                      refine lv_iinc (v := (nI (k + 1))) hx hb d_MO_entry_96 hl (k := 0) rfl (nI_1 k) (by decide) rfl (fun ls hl => ?_)
                      have hl : lv_has ls 6 [(5, .int (nI (k + 1))), (0, .ref (o 0)), (1, .int (nI rr)), (2, .int a), (3, .int b), (4, .int c)] := hl
                      refine lv_goto hx hb d_MO_entry_99 rfl ?_
                      have hl : lv_has ls 6 [(5, .int (nI (k + 1))), (0, .ref (o 0)), (1, .int (nI rr)), (2, .int a), (3, .int b), (4, .int c)] := lv_sub hl [0, 1, 2, 3, 4, 5] rfl
                      exact lp (k + 1) (by omega) (by intro a h9; rcases (by omega : a < k ∨ a = k) with h8 | h8; exact hno a h8; rw [h8]; exact hz) (by omega) _ _ _ G hl
                    · skip
                      refine lv_aload_n hx hb d_MO_entry_83 rfl (lv_at hl 1 rfl) ?_
                      refine gf_MO_19 X G 0 rfl rfl d_MO_entry_84 ?_
                      refine lv_iload hx hb d_MO_entry_87 (lv_at hl 0 rfl) ?_
                      refine z_iald X G 4 rfl k (rfl) (by omega) (by decide) d_MO_entry_89 ?_
                      refine lv_iload_n hx hb d_MO_entry_90 rfl (lv_at hl 2 rfl) ?_
                      refine zi_icmp_ne hx hb d_MO_entry_91 rfl rfl (nI_toInt (by omega) : (nI rr).toInt = ((rr : Nat) : Int)) (fun h91 => ?_) (fun h91 => ?_)
                      · skip
                        have hz : ¬ (B.kd k = 3 ∧ B.nu k = nI rr) := fun h9 => h91 (by rw [h9.2, nI_toInt (by omega)])
                        refine lv_iinc (v := (nI (k + 1))) hx hb d_MO_entry_96 hl (k := 0) rfl (nI_1 k) (by decide) rfl (fun ls hl => ?_)
                        have hl : lv_has ls 6 [(5, .int (nI (k + 1))), (0, .ref (o 0)), (1, .int (nI rr)), (2, .int a), (3, .int b), (4, .int c)] := hl
                        refine lv_goto hx hb d_MO_entry_99 rfl ?_
                        have hl : lv_has ls 6 [(5, .int (nI (k + 1))), (0, .ref (o 0)), (1, .int (nI rr)), (2, .int a), (3, .int b), (4, .int c)] := lv_sub hl [0, 1, 2, 3, 4, 5] rfl
                        exact lp (k + 1) (by omega) (by intro a h9; rcases (by omega : a < k ∨ a = k) with h8 | h8; exact hno a h8; rw [h8]; exact hz) (by omega) _ _ _ G hl
                      · skip
                        refine lv_iconst (v := (nI 0)) hx hb d_MO_entry_94 (by decide) ?_
                        exact z_ret X hrt hlk G (rfl) (Or.inr ⟨fun ⟨_, ⟨r9, hr9, e9, g9, f9⟩, _⟩ => by have e8 : r9 = rr := (nI_eq (by omega) (by omega)).mp (e9.symm.trans hxr); subst e8; first | exact f9 (by omega) | exact g9 ⟨k, by omega, t_nat (n := 3) h80 (by decide), t_nat h91 (by omega)⟩, rfl, rfl⟩) d_MO_entry_95
              have hl : lv_has ls 6 [(5, .int (nI 0)), (0, .ref (o 0)), (1, .int (nI rr)), (2, .int a), (3, .int b), (4, .int c)] := lv_sub hl [0, 1, 2, 3, 4, 5] rfl
              exact lp _ 0 (by omega) (fun a h9 => absurd h9 (Nat.not_lt_zero a)) (Nat.lt_succ_self _) _ _ _ G hl
            · skip
              refine lv_iconst (v := (nI 0)) hx hb d_MO_entry_58 (by decide) ?_
              exact z_ret X hrt hlk G (rfl) (Or.inr ⟨by first | exact fun h9 => h9.1.1 h4 | exact fun h9 => absurd h9.1.2 (by omega) | (rintro ⟨_, ⟨r9, hr9, e9, _⟩, _⟩; exact h21 (by rw [e9, nI_toInt (by omega)]; omega)) | exact fun h9 => h32 (by have := h9.2.2.1; omega) | exact fun h9 => h43 (by have := h9.2.2.2.1; omega) | exact fun h9 => h55 (by have := h9.2.2.2.2; omega), rfl, rfl⟩) d_MO_entry_59
set_option maxHeartbeats 4000000 in
set_option maxRecDepth 100000 in
theorem m_rule (l : Launch) (D : va_G) (cI : ClassId) (o : Nat → Nat) (cnt lv : Nat) (B : Bk) (dm od om be ke ch tr : Nat → Int32) (U V : Prop) (de vi fa so : Int32) (wh x y z nn : Int32) (hc8 : cnt ≤ 8) (hn16 : B.1 ≤ 16) (hlv : lv ≤ 10) : MI l y_MO_rule b_MO_rule 6 .int 1 D cI [.ref (o 0), .int wh, .int x, .int y, .int z, .int nn] [((o 0), .inr (5, [.int (nI cnt), .int (nI (B.1)), .int (nI lv), .ref (o 1), .ref (o 2), .ref (o 3), .ref (o 4), .ref (o 5), .ref (o 6), .ref (o 7), .ref (o 8), .int (bP (U)), .int (bP (V)), .int de, .int vi, .int fa, .int so, .ref (o 9), .ref (o 10), .ref (o 11), .ref (o 12)])), ((o 1), .inl (cI, 8, .inl dm)), ((o 2), .inl (cI, 16, .inl B.kd)), ((o 3), .inl (cI, 48, .inl B.mb)), ((o 4), .inl (cI, 16, .inl B.nu)), ((o 5), .inl (cI, 4, .inl B.sz)), ((o 6), .inl (cI, 144, .inl B.en)), ((o 7), .inl (cI, 80, .inl od)), ((o 8), .inl (cI, 10, .inl om)), ((o 9), .inl (cI, 8, .inl be)), ((o 10), .inl (cI, 8, .inl ke)), ((o 11), .inl (cI, 9, .inl ch)), ((o 12), .inl (cI, 9, .inl tr))] (fun r u => ∃ B1, u = [((o 0), .inr (5, [.int (nI cnt), .int (nI (B1.1)), .int (nI lv), .ref (o 1), .ref (o 2), .ref (o 3), .ref (o 4), .ref (o 5), .ref (o 6), .ref (o 7), .ref (o 8), .int (bP (U)), .int (bP (V)), .int de, .int vi, .int fa, .int so, .ref (o 9), .ref (o 10), .ref (o 11), .ref (o 12)])), ((o 1), .inl (cI, 8, .inl dm)), ((o 2), .inl (cI, 16, .inl B1.kd)), ((o 3), .inl (cI, 48, .inl B1.mb)), ((o 4), .inl (cI, 16, .inl B1.nu)), ((o 5), .inl (cI, 4, .inl B1.sz)), ((o 6), .inl (cI, 144, .inl B1.en)), ((o 7), .inl (cI, 80, .inl od)), ((o 8), .inl (cI, 10, .inl om)), ((o 9), .inl (cI, 8, .inl be)), ((o 10), .inl (cI, 8, .inl ke)), ((o 11), .inl (cI, 9, .inl ch)), ((o 12), .inl (cI, 9, .inl tr))] ∧ ((((¬ U ∧ B.1 < 16) ∧ (0 ≤ x.toInt ∧ x.toInt < cnt) ∧ (0 ≤ y.toInt ∧ y.toInt < cnt) ∧ x.toInt ≠ y.toInt ∧ (2 ≤ wh.toInt → (0 ≤ z.toInt ∧ z.toInt < cnt) ∧ z.toInt ≠ x.toInt ∧ z.toInt ≠ y.toInt)) ∧ r = nI B.1 ∧ B1 = apB B wh x y z nn) ∨ (¬ ((¬ U ∧ B.1 < 16) ∧ (0 ≤ x.toInt ∧ x.toInt < cnt) ∧ (0 ≤ y.toInt ∧ y.toInt < cnt) ∧ x.toInt ≠ y.toInt ∧ (2 ≤ wh.toInt → (0 ≤ z.toInt ∧ z.toInt < cnt) ∧ z.toInt ≠ x.toInt ∧ z.toInt ≠ y.toInt)) ∧ r = -1 ∧ B1 = B))) := by
  refine MI.of (by decide) (Nat.le_of_ble_eq_true rfl) ?_
  intro zp ze zs zm zb zt zc ls A X hrt hlk G hl
  have hx := X.1
  have hb := X.2.1
  have hl : lv_has ls 6 [(0, .ref (o 0)), (1, .int wh), (2, .int x), (3, .int y), (4, .int z), (5, .int nn)] := hl
  refine lv_aload_n hx hb d_MO_rule_0 rfl (lv_at hl 0 rfl) ?_
  refine gf_MO_46 X G 0 rfl rfl d_MO_rule_1 ?_
  refine zb_ne hx hb d_MO_rule_4 rfl (fun h4 => ?_) (fun h4 => ?_)
  · skip
    refine lv_iconst (v := (-1)) hx hb d_MO_rule_51 (by decide) ?_
    exact z_ret X hrt hlk G (rfl) (⟨B, rfl, Or.inr ⟨by first | exact fun h9 => h9.1.1 h4 | exact fun h9 => absurd h9.1.2 (by omega) | exact fun h9 => h28 (by have := h9.2.1; omega) | exact fun h9 => h43 (by have := h9.2.2.1; omega) | exact fun h9 => h9.2.2.2.1 h48, rfl, rfl⟩⟩) d_MO_rule_52
  · skip
    refine lv_aload_n hx hb d_MO_rule_7 rfl (lv_at hl 0 rfl) ?_
    refine gf_MO_62 X G 0 rfl rfl d_MO_rule_8 ?_
    refine lv_bipush (v := (nI 16)) hx hb d_MO_rule_11 (by decide) ?_
    refine zi_icmp_eq hx hb d_MO_rule_13 rfl (nI_toInt (by omega) : (nI B.1).toInt = ((B.1 : Nat) : Int)) (by decide : (nI 16).toInt = 16) (fun h13 => ?_) (fun h13 => ?_)
    · skip
      refine lv_iconst (v := (-1)) hx hb d_MO_rule_51 (by decide) ?_
      exact z_ret X hrt hlk G (rfl) (⟨B, rfl, Or.inr ⟨by first | exact fun h9 => h9.1.1 h4 | exact fun h9 => absurd h9.1.2 (by omega) | exact fun h9 => h28 (by have := h9.2.1; omega) | exact fun h9 => h43 (by have := h9.2.2.1; omega) | exact fun h9 => h9.2.2.2.1 h48, rfl, rfl⟩⟩) d_MO_rule_52
    · skip
      refine lv_aload_n hx hb d_MO_rule_16 rfl (lv_at hl 0 rfl) ?_
      refine lv_iload_n hx hb d_MO_rule_17 rfl (lv_at hl 2 rfl) ?_
      refine lv_iconst (v := (nI 0)) hx hb d_MO_rule_18 (by decide) ?_
      refine lv_aload_n hx hb d_MO_rule_19 rfl (lv_at hl 0 rfl) ?_
      refine gf_MO_54 X G 0 rfl rfl d_MO_rule_20 ?_
      refine lv_iconst (v := (nI 1)) hx hb d_MO_rule_23 (by decide) ?_
      refine lv_isub hx hb d_MO_rule_24 ?_
      refine z_top (nI cnt - 1) (rfl) ?_
      refine zV_R X G (m_within l D cI o cnt lv B dm od om be ke ch tr U V de vi fa so x (nI 0) (nI cnt - 1) 0 (((cnt : Nat) : Int) - 1) (by decide) (dp_toInt (by omega))) lk_MO_58 [0, 1, 2, 3, 4, 5, 6, 7, 8, 9, 10, 11, 12] rfl (by decide) 0 rfl rfl ⟨by decide, by decide⟩ ⟨Nat.zero_le _, Nat.zero_le _⟩ hl.1 rfl (Nat.le_of_ble_eq_true rfl) d_MO_rule_25 (fun H locs G => ?_)
      refine zb_eq hx hb d_MO_rule_28 rfl (fun h28 => ?_) (fun h28 => ?_)
      · skip
        refine lv_iconst (v := (-1)) hx hb d_MO_rule_51 (by decide) ?_
        exact z_ret X hrt hlk G (rfl) (⟨B, rfl, Or.inr ⟨by first | exact fun h9 => h9.1.1 h4 | exact fun h9 => absurd h9.1.2 (by omega) | exact fun h9 => h28 (by have := h9.2.1; omega) | exact fun h9 => h43 (by have := h9.2.2.1; omega) | exact fun h9 => h9.2.2.2.1 h48, rfl, rfl⟩⟩) d_MO_rule_52
      · skip
        refine lv_aload_n hx hb d_MO_rule_31 rfl (lv_at hl 0 rfl) ?_
        refine lv_iload_n hx hb d_MO_rule_32 rfl (lv_at hl 3 rfl) ?_
        refine lv_iconst (v := (nI 0)) hx hb d_MO_rule_33 (by decide) ?_
        refine lv_aload_n hx hb d_MO_rule_34 rfl (lv_at hl 0 rfl) ?_
        refine gf_MO_54 X G 0 rfl rfl d_MO_rule_35 ?_
        refine lv_iconst (v := (nI 1)) hx hb d_MO_rule_38 (by decide) ?_
        refine lv_isub hx hb d_MO_rule_39 ?_
        refine z_top (nI cnt - 1) (rfl) ?_
        refine zV_R X G (m_within l D cI o cnt lv B dm od om be ke ch tr U V de vi fa so y (nI 0) (nI cnt - 1) 0 (((cnt : Nat) : Int) - 1) (by decide) (dp_toInt (by omega))) lk_MO_58 [0, 1, 2, 3, 4, 5, 6, 7, 8, 9, 10, 11, 12] rfl (by decide) 0 rfl rfl ⟨by decide, by decide⟩ ⟨Nat.zero_le _, Nat.zero_le _⟩ hl.1 rfl (Nat.le_of_ble_eq_true rfl) d_MO_rule_40 (fun H locs G => ?_)
        refine zb_eq hx hb d_MO_rule_43 rfl (fun h43 => ?_) (fun h43 => ?_)
        · skip
          refine lv_iconst (v := (-1)) hx hb d_MO_rule_51 (by decide) ?_
          exact z_ret X hrt hlk G (rfl) (⟨B, rfl, Or.inr ⟨by first | exact fun h9 => h9.1.1 h4 | exact fun h9 => absurd h9.1.2 (by omega) | exact fun h9 => h28 (by have := h9.2.1; omega) | exact fun h9 => h43 (by have := h9.2.2.1; omega) | exact fun h9 => h9.2.2.2.1 h48, rfl, rfl⟩⟩) d_MO_rule_52
        · skip
          refine lv_iload_n hx hb d_MO_rule_46 rfl (lv_at hl 2 rfl) ?_
          refine lv_iload_n hx hb d_MO_rule_47 rfl (lv_at hl 3 rfl) ?_
          refine zi_icmp_ne hx hb d_MO_rule_48 rfl rfl rfl (fun h48 => ?_) (fun h48 => ?_)
          · skip
            refine lv_iload_n hx hb d_MO_rule_53 rfl (lv_at hl 1 rfl) ?_
            refine lv_iconst (v := (nI 2)) hx hb d_MO_rule_54 (by decide) ?_
            refine zi_icmp_lt hx hb d_MO_rule_55 rfl rfl (by decide : (nI 2).toInt = 2) (fun h55 => ?_) (fun h55 => ?_)
            · skip
              refine lv_aload_n hx hb d_MO_rule_88 rfl (lv_at hl 0 rfl) ?_
              refine gf_MO_13 X G 0 rfl rfl d_MO_rule_89 ?_
              refine lv_aload_n hx hb d_MO_rule_92 rfl (lv_at hl 0 rfl) ?_
              refine gf_MO_62 X G 0 rfl rfl d_MO_rule_93 ?_
              refine lv_iload_n hx hb d_MO_rule_96 rfl (lv_at hl 1 rfl) ?_
              refine z_iast X G 2 rfl B.1 (rfl) (by omega) (by decide) d_MO_rule_97 (fun H locs G => ?_)
              have G : Gw D A zs.heap H locs [((o 0), .inr (5, [.int (nI cnt), .int (nI (B.1)), .int (nI lv), .ref (o 1), .ref (o 2), .ref (o 3), .ref (o 4), .ref (o 5), .ref (o 6), .ref (o 7), .ref (o 8), .int (bP (U)), .int (bP (V)), .int de, .int vi, .int fa, .int so, .ref (o 9), .ref (o 10), .ref (o 11), .ref (o 12)])), ((o 1), .inl (cI, 8, .inl dm)), ((o 2), .inl (cI, 16, .inl (upd B.kd B.1 wh))), ((o 3), .inl (cI, 48, .inl B.mb)), ((o 4), .inl (cI, 16, .inl B.nu)), ((o 5), .inl (cI, 4, .inl B.sz)), ((o 6), .inl (cI, 144, .inl B.en)), ((o 7), .inl (cI, 80, .inl od)), ((o 8), .inl (cI, 10, .inl om)), ((o 9), .inl (cI, 8, .inl be)), ((o 10), .inl (cI, 8, .inl ke)), ((o 11), .inl (cI, 9, .inl ch)), ((o 12), .inl (cI, 9, .inl tr))] := G
              refine lv_aload_n hx hb d_MO_rule_98 rfl (lv_at hl 0 rfl) ?_
              refine gf_MO_16 X G 0 rfl rfl d_MO_rule_99 ?_
              refine lv_iconst (v := (nI 3)) hx hb d_MO_rule_102 (by decide) ?_
              refine lv_aload_n hx hb d_MO_rule_103 rfl (lv_at hl 0 rfl) ?_
              refine gf_MO_62 X G 0 rfl rfl d_MO_rule_104 ?_
              refine zn_mul hx hb d_MO_rule_107 ?_
              refine lv_iload_n hx hb d_MO_rule_108 rfl (lv_at hl 2 rfl) ?_
              refine z_iast X G 3 rfl (3 * B.1) (rfl) (by omega) (by decide) d_MO_rule_109 (fun H locs G => ?_)
              have G : Gw D A zs.heap H locs [((o 0), .inr (5, [.int (nI cnt), .int (nI (B.1)), .int (nI lv), .ref (o 1), .ref (o 2), .ref (o 3), .ref (o 4), .ref (o 5), .ref (o 6), .ref (o 7), .ref (o 8), .int (bP (U)), .int (bP (V)), .int de, .int vi, .int fa, .int so, .ref (o 9), .ref (o 10), .ref (o 11), .ref (o 12)])), ((o 1), .inl (cI, 8, .inl dm)), ((o 2), .inl (cI, 16, .inl (upd B.kd B.1 wh))), ((o 3), .inl (cI, 48, .inl (upd B.mb (3 * B.1) x))), ((o 4), .inl (cI, 16, .inl B.nu)), ((o 5), .inl (cI, 4, .inl B.sz)), ((o 6), .inl (cI, 144, .inl B.en)), ((o 7), .inl (cI, 80, .inl od)), ((o 8), .inl (cI, 10, .inl om)), ((o 9), .inl (cI, 8, .inl be)), ((o 10), .inl (cI, 8, .inl ke)), ((o 11), .inl (cI, 9, .inl ch)), ((o 12), .inl (cI, 9, .inl tr))] := G
              refine lv_aload_n hx hb d_MO_rule_110 rfl (lv_at hl 0 rfl) ?_
              refine gf_MO_16 X G 0 rfl rfl d_MO_rule_111 ?_
              refine lv_iconst (v := (nI 3)) hx hb d_MO_rule_114 (by decide) ?_
              refine lv_aload_n hx hb d_MO_rule_115 rfl (lv_at hl 0 rfl) ?_
              refine gf_MO_62 X G 0 rfl rfl d_MO_rule_116 ?_
              refine zn_mul hx hb d_MO_rule_119 ?_
              refine lv_iconst (v := (nI 1)) hx hb d_MO_rule_120 (by decide) ?_
              refine zn_add hx hb d_MO_rule_121 ?_
              refine lv_iload_n hx hb d_MO_rule_122 rfl (lv_at hl 3 rfl) ?_
              refine z_iast X G 3 rfl ((3 * B.1) + 1) (rfl) (by omega) (by decide) d_MO_rule_123 (fun H locs G => ?_)
              have G : Gw D A zs.heap H locs [((o 0), .inr (5, [.int (nI cnt), .int (nI (B.1)), .int (nI lv), .ref (o 1), .ref (o 2), .ref (o 3), .ref (o 4), .ref (o 5), .ref (o 6), .ref (o 7), .ref (o 8), .int (bP (U)), .int (bP (V)), .int de, .int vi, .int fa, .int so, .ref (o 9), .ref (o 10), .ref (o 11), .ref (o 12)])), ((o 1), .inl (cI, 8, .inl dm)), ((o 2), .inl (cI, 16, .inl (upd B.kd B.1 wh))), ((o 3), .inl (cI, 48, .inl (upd (upd B.mb (3 * B.1) x) ((3 * B.1) + 1) y))), ((o 4), .inl (cI, 16, .inl B.nu)), ((o 5), .inl (cI, 4, .inl B.sz)), ((o 6), .inl (cI, 144, .inl B.en)), ((o 7), .inl (cI, 80, .inl od)), ((o 8), .inl (cI, 10, .inl om)), ((o 9), .inl (cI, 8, .inl be)), ((o 10), .inl (cI, 8, .inl ke)), ((o 11), .inl (cI, 9, .inl ch)), ((o 12), .inl (cI, 9, .inl tr))] := G
              refine lv_aload_n hx hb d_MO_rule_124 rfl (lv_at hl 0 rfl) ?_
              refine gf_MO_16 X G 0 rfl rfl d_MO_rule_125 ?_
              refine lv_iconst (v := (nI 3)) hx hb d_MO_rule_128 (by decide) ?_
              refine lv_aload_n hx hb d_MO_rule_129 rfl (lv_at hl 0 rfl) ?_
              refine gf_MO_62 X G 0 rfl rfl d_MO_rule_130 ?_
              refine zn_mul hx hb d_MO_rule_133 ?_
              refine lv_iconst (v := (nI 2)) hx hb d_MO_rule_134 (by decide) ?_
              refine zn_add hx hb d_MO_rule_135 ?_
              refine lv_iload hx hb d_MO_rule_136 (lv_at hl 4 rfl) ?_
              refine z_iast X G 3 rfl ((3 * B.1) + 2) (rfl) (by omega) (by decide) d_MO_rule_138 (fun H locs G => ?_)
              have G : Gw D A zs.heap H locs [((o 0), .inr (5, [.int (nI cnt), .int (nI (B.1)), .int (nI lv), .ref (o 1), .ref (o 2), .ref (o 3), .ref (o 4), .ref (o 5), .ref (o 6), .ref (o 7), .ref (o 8), .int (bP (U)), .int (bP (V)), .int de, .int vi, .int fa, .int so, .ref (o 9), .ref (o 10), .ref (o 11), .ref (o 12)])), ((o 1), .inl (cI, 8, .inl dm)), ((o 2), .inl (cI, 16, .inl (upd B.kd B.1 wh))), ((o 3), .inl (cI, 48, .inl (upd (upd (upd B.mb (3 * B.1) x) ((3 * B.1) + 1) y) ((3 * B.1) + 2) z))), ((o 4), .inl (cI, 16, .inl B.nu)), ((o 5), .inl (cI, 4, .inl B.sz)), ((o 6), .inl (cI, 144, .inl B.en)), ((o 7), .inl (cI, 80, .inl od)), ((o 8), .inl (cI, 10, .inl om)), ((o 9), .inl (cI, 8, .inl be)), ((o 10), .inl (cI, 8, .inl ke)), ((o 11), .inl (cI, 9, .inl ch)), ((o 12), .inl (cI, 9, .inl tr))] := G
              refine lv_aload_n hx hb d_MO_rule_139 rfl (lv_at hl 0 rfl) ?_
              refine gf_MO_19 X G 0 rfl rfl d_MO_rule_140 ?_
              refine lv_aload_n hx hb d_MO_rule_143 rfl (lv_at hl 0 rfl) ?_
              refine gf_MO_62 X G 0 rfl rfl d_MO_rule_144 ?_
              refine lv_iload hx hb d_MO_rule_147 (lv_at hl 5 rfl) ?_
              refine z_iast X G 4 rfl B.1 (rfl) (by omega) (by decide) d_MO_rule_149 (fun H locs G => ?_)
              have G : Gw D A zs.heap H locs [((o 0), .inr (5, [.int (nI cnt), .int (nI (B.1)), .int (nI lv), .ref (o 1), .ref (o 2), .ref (o 3), .ref (o 4), .ref (o 5), .ref (o 6), .ref (o 7), .ref (o 8), .int (bP (U)), .int (bP (V)), .int de, .int vi, .int fa, .int so, .ref (o 9), .ref (o 10), .ref (o 11), .ref (o 12)])), ((o 1), .inl (cI, 8, .inl dm)), ((o 2), .inl (cI, 16, .inl (upd B.kd B.1 wh))), ((o 3), .inl (cI, 48, .inl (upd (upd (upd B.mb (3 * B.1) x) ((3 * B.1) + 1) y) ((3 * B.1) + 2) z))), ((o 4), .inl (cI, 16, .inl (upd B.nu B.1 nn))), ((o 5), .inl (cI, 4, .inl B.sz)), ((o 6), .inl (cI, 144, .inl B.en)), ((o 7), .inl (cI, 80, .inl od)), ((o 8), .inl (cI, 10, .inl om)), ((o 9), .inl (cI, 8, .inl be)), ((o 10), .inl (cI, 8, .inl ke)), ((o 11), .inl (cI, 9, .inl ch)), ((o 12), .inl (cI, 9, .inl tr))] := G
              refine lv_aload_n hx hb d_MO_rule_150 rfl (lv_at hl 0 rfl) ?_
              refine lv_dup hx hb d_MO_rule_151 rfl ?_
              refine gf_MO_62 X G 0 rfl rfl d_MO_rule_152 ?_
              refine lv_iconst (v := (nI 1)) hx hb d_MO_rule_155 (by decide) ?_
              refine zn_add hx hb d_MO_rule_156 ?_
              refine pf_MO_62 X G 0 rfl (rfl) (rfl) (Nat.le_of_ble_eq_true rfl) d_MO_rule_157 (fun H locs G => ?_)
              have G : Gw D A zs.heap H locs [((o 0), .inr (5, [.int (nI cnt), .int (nI (B.1 + 1)), .int (nI lv), .ref (o 1), .ref (o 2), .ref (o 3), .ref (o 4), .ref (o 5), .ref (o 6), .ref (o 7), .ref (o 8), .int (bP (U)), .int (bP (V)), .int de, .int vi, .int fa, .int so, .ref (o 9), .ref (o 10), .ref (o 11), .ref (o 12)])), ((o 1), .inl (cI, 8, .inl dm)), ((o 2), .inl (cI, 16, .inl (upd B.kd B.1 wh))), ((o 3), .inl (cI, 48, .inl (upd (upd (upd B.mb (3 * B.1) x) ((3 * B.1) + 1) y) ((3 * B.1) + 2) z))), ((o 4), .inl (cI, 16, .inl (upd B.nu B.1 nn))), ((o 5), .inl (cI, 4, .inl B.sz)), ((o 6), .inl (cI, 144, .inl B.en)), ((o 7), .inl (cI, 80, .inl od)), ((o 8), .inl (cI, 10, .inl om)), ((o 9), .inl (cI, 8, .inl be)), ((o 10), .inl (cI, 8, .inl ke)), ((o 11), .inl (cI, 9, .inl ch)), ((o 12), .inl (cI, 9, .inl tr))] := G
              refine lv_aload_n hx hb d_MO_rule_160 rfl (lv_at hl 0 rfl) ?_
              refine gf_MO_62 X G 0 rfl rfl d_MO_rule_161 ?_
              refine lv_iconst (v := (nI 1)) hx hb d_MO_rule_164 (by decide) ?_
              refine zn_sub hx hb (by omega) d_MO_rule_165 ?_
              rw [Nat.mul_comm 3 B.1] at G
              exact z_ret X hrt hlk G (rfl) (⟨apB B wh x y z nn, rfl, Or.inl ⟨⟨⟨h4, by omega⟩, by omega, by omega, h48, by first | exact fun h9 => absurd h9 (by omega) | exact fun _ => ⟨by omega, h77, h83⟩⟩, by rw [show B.1 + 1 - 1 = B.1 by omega], rfl⟩⟩) d_MO_rule_166
            · skip
              refine lv_aload_n hx hb d_MO_rule_58 rfl (lv_at hl 0 rfl) ?_
              refine lv_iload hx hb d_MO_rule_59 (lv_at hl 4 rfl) ?_
              refine lv_iconst (v := (nI 0)) hx hb d_MO_rule_61 (by decide) ?_
              refine lv_aload_n hx hb d_MO_rule_62 rfl (lv_at hl 0 rfl) ?_
              refine gf_MO_54 X G 0 rfl rfl d_MO_rule_63 ?_
              refine lv_iconst (v := (nI 1)) hx hb d_MO_rule_66 (by decide) ?_
              refine lv_isub hx hb d_MO_rule_67 ?_
              refine z_top (nI cnt - 1) (rfl) ?_
              refine zV_R X G (m_within l D cI o cnt lv B dm od om be ke ch tr U V de vi fa so z (nI 0) (nI cnt - 1) 0 (((cnt : Nat) : Int) - 1) (by decide) (dp_toInt (by omega))) lk_MO_58 [0, 1, 2, 3, 4, 5, 6, 7, 8, 9, 10, 11, 12] rfl (by decide) 0 rfl rfl ⟨by decide, by decide⟩ ⟨Nat.zero_le _, Nat.zero_le _⟩ hl.1 rfl (Nat.le_of_ble_eq_true rfl) d_MO_rule_68 (fun H locs G => ?_)
              refine zb_eq hx hb d_MO_rule_71 rfl (fun h71 => ?_) (fun h71 => ?_)
              · skip
                refine lv_iconst (v := (-1)) hx hb d_MO_rule_86 (by decide) ?_
                exact z_ret X hrt hlk G (rfl) (⟨B, rfl, Or.inr ⟨by first | exact fun h9 => h71 (by have := h9.2.2.2.2 (by omega); omega) | exact fun h9 => (h9.2.2.2.2 (by omega)).2.1 h77 | exact fun h9 => (h9.2.2.2.2 (by omega)).2.2 h83, rfl, rfl⟩⟩) d_MO_rule_87
              · skip
                refine lv_iload hx hb d_MO_rule_74 (lv_at hl 4 rfl) ?_
                refine lv_iload_n hx hb d_MO_rule_76 rfl (lv_at hl 2 rfl) ?_
                refine zi_icmp_eq hx hb d_MO_rule_77 rfl rfl rfl (fun h77 => ?_) (fun h77 => ?_)
                · skip
                  refine lv_iconst (v := (-1)) hx hb d_MO_rule_86 (by decide) ?_
                  exact z_ret X hrt hlk G (rfl) (⟨B, rfl, Or.inr ⟨by first | exact fun h9 => h71 (by have := h9.2.2.2.2 (by omega); omega) | exact fun h9 => (h9.2.2.2.2 (by omega)).2.1 h77 | exact fun h9 => (h9.2.2.2.2 (by omega)).2.2 h83, rfl, rfl⟩⟩) d_MO_rule_87
                · skip
                  refine lv_iload hx hb d_MO_rule_80 (lv_at hl 4 rfl) ?_
                  refine lv_iload_n hx hb d_MO_rule_82 rfl (lv_at hl 3 rfl) ?_
                  refine zi_icmp_ne hx hb d_MO_rule_83 rfl rfl rfl (fun h83 => ?_) (fun h83 => ?_)
                  · skip
                    refine lv_aload_n hx hb d_MO_rule_88 rfl (lv_at hl 0 rfl) ?_
                    refine gf_MO_13 X G 0 rfl rfl d_MO_rule_89 ?_
                    refine lv_aload_n hx hb d_MO_rule_92 rfl (lv_at hl 0 rfl) ?_
                    refine gf_MO_62 X G 0 rfl rfl d_MO_rule_93 ?_
                    refine lv_iload_n hx hb d_MO_rule_96 rfl (lv_at hl 1 rfl) ?_
                    refine z_iast X G 2 rfl B.1 (rfl) (by omega) (by decide) d_MO_rule_97 (fun H locs G => ?_)
                    have G : Gw D A zs.heap H locs [((o 0), .inr (5, [.int (nI cnt), .int (nI (B.1)), .int (nI lv), .ref (o 1), .ref (o 2), .ref (o 3), .ref (o 4), .ref (o 5), .ref (o 6), .ref (o 7), .ref (o 8), .int (bP (U)), .int (bP (V)), .int de, .int vi, .int fa, .int so, .ref (o 9), .ref (o 10), .ref (o 11), .ref (o 12)])), ((o 1), .inl (cI, 8, .inl dm)), ((o 2), .inl (cI, 16, .inl (upd B.kd B.1 wh))), ((o 3), .inl (cI, 48, .inl B.mb)), ((o 4), .inl (cI, 16, .inl B.nu)), ((o 5), .inl (cI, 4, .inl B.sz)), ((o 6), .inl (cI, 144, .inl B.en)), ((o 7), .inl (cI, 80, .inl od)), ((o 8), .inl (cI, 10, .inl om)), ((o 9), .inl (cI, 8, .inl be)), ((o 10), .inl (cI, 8, .inl ke)), ((o 11), .inl (cI, 9, .inl ch)), ((o 12), .inl (cI, 9, .inl tr))] := G
                    refine lv_aload_n hx hb d_MO_rule_98 rfl (lv_at hl 0 rfl) ?_
                    refine gf_MO_16 X G 0 rfl rfl d_MO_rule_99 ?_
                    refine lv_iconst (v := (nI 3)) hx hb d_MO_rule_102 (by decide) ?_
                    refine lv_aload_n hx hb d_MO_rule_103 rfl (lv_at hl 0 rfl) ?_
                    refine gf_MO_62 X G 0 rfl rfl d_MO_rule_104 ?_
                    refine zn_mul hx hb d_MO_rule_107 ?_
                    refine lv_iload_n hx hb d_MO_rule_108 rfl (lv_at hl 2 rfl) ?_
                    refine z_iast X G 3 rfl (3 * B.1) (rfl) (by omega) (by decide) d_MO_rule_109 (fun H locs G => ?_)
                    have G : Gw D A zs.heap H locs [((o 0), .inr (5, [.int (nI cnt), .int (nI (B.1)), .int (nI lv), .ref (o 1), .ref (o 2), .ref (o 3), .ref (o 4), .ref (o 5), .ref (o 6), .ref (o 7), .ref (o 8), .int (bP (U)), .int (bP (V)), .int de, .int vi, .int fa, .int so, .ref (o 9), .ref (o 10), .ref (o 11), .ref (o 12)])), ((o 1), .inl (cI, 8, .inl dm)), ((o 2), .inl (cI, 16, .inl (upd B.kd B.1 wh))), ((o 3), .inl (cI, 48, .inl (upd B.mb (3 * B.1) x))), ((o 4), .inl (cI, 16, .inl B.nu)), ((o 5), .inl (cI, 4, .inl B.sz)), ((o 6), .inl (cI, 144, .inl B.en)), ((o 7), .inl (cI, 80, .inl od)), ((o 8), .inl (cI, 10, .inl om)), ((o 9), .inl (cI, 8, .inl be)), ((o 10), .inl (cI, 8, .inl ke)), ((o 11), .inl (cI, 9, .inl ch)), ((o 12), .inl (cI, 9, .inl tr))] := G
                    refine lv_aload_n hx hb d_MO_rule_110 rfl (lv_at hl 0 rfl) ?_
                    refine gf_MO_16 X G 0 rfl rfl d_MO_rule_111 ?_
                    refine lv_iconst (v := (nI 3)) hx hb d_MO_rule_114 (by decide) ?_
                    refine lv_aload_n hx hb d_MO_rule_115 rfl (lv_at hl 0 rfl) ?_
                    refine gf_MO_62 X G 0 rfl rfl d_MO_rule_116 ?_
                    refine zn_mul hx hb d_MO_rule_119 ?_
                    refine lv_iconst (v := (nI 1)) hx hb d_MO_rule_120 (by decide) ?_
                    refine zn_add hx hb d_MO_rule_121 ?_
                    refine lv_iload_n hx hb d_MO_rule_122 rfl (lv_at hl 3 rfl) ?_
                    refine z_iast X G 3 rfl ((3 * B.1) + 1) (rfl) (by omega) (by decide) d_MO_rule_123 (fun H locs G => ?_)
                    have G : Gw D A zs.heap H locs [((o 0), .inr (5, [.int (nI cnt), .int (nI (B.1)), .int (nI lv), .ref (o 1), .ref (o 2), .ref (o 3), .ref (o 4), .ref (o 5), .ref (o 6), .ref (o 7), .ref (o 8), .int (bP (U)), .int (bP (V)), .int de, .int vi, .int fa, .int so, .ref (o 9), .ref (o 10), .ref (o 11), .ref (o 12)])), ((o 1), .inl (cI, 8, .inl dm)), ((o 2), .inl (cI, 16, .inl (upd B.kd B.1 wh))), ((o 3), .inl (cI, 48, .inl (upd (upd B.mb (3 * B.1) x) ((3 * B.1) + 1) y))), ((o 4), .inl (cI, 16, .inl B.nu)), ((o 5), .inl (cI, 4, .inl B.sz)), ((o 6), .inl (cI, 144, .inl B.en)), ((o 7), .inl (cI, 80, .inl od)), ((o 8), .inl (cI, 10, .inl om)), ((o 9), .inl (cI, 8, .inl be)), ((o 10), .inl (cI, 8, .inl ke)), ((o 11), .inl (cI, 9, .inl ch)), ((o 12), .inl (cI, 9, .inl tr))] := G
                    refine lv_aload_n hx hb d_MO_rule_124 rfl (lv_at hl 0 rfl) ?_
                    refine gf_MO_16 X G 0 rfl rfl d_MO_rule_125 ?_
                    refine lv_iconst (v := (nI 3)) hx hb d_MO_rule_128 (by decide) ?_
                    refine lv_aload_n hx hb d_MO_rule_129 rfl (lv_at hl 0 rfl) ?_
                    refine gf_MO_62 X G 0 rfl rfl d_MO_rule_130 ?_
                    refine zn_mul hx hb d_MO_rule_133 ?_
                    refine lv_iconst (v := (nI 2)) hx hb d_MO_rule_134 (by decide) ?_
                    refine zn_add hx hb d_MO_rule_135 ?_
                    refine lv_iload hx hb d_MO_rule_136 (lv_at hl 4 rfl) ?_
                    refine z_iast X G 3 rfl ((3 * B.1) + 2) (rfl) (by omega) (by decide) d_MO_rule_138 (fun H locs G => ?_)
                    have G : Gw D A zs.heap H locs [((o 0), .inr (5, [.int (nI cnt), .int (nI (B.1)), .int (nI lv), .ref (o 1), .ref (o 2), .ref (o 3), .ref (o 4), .ref (o 5), .ref (o 6), .ref (o 7), .ref (o 8), .int (bP (U)), .int (bP (V)), .int de, .int vi, .int fa, .int so, .ref (o 9), .ref (o 10), .ref (o 11), .ref (o 12)])), ((o 1), .inl (cI, 8, .inl dm)), ((o 2), .inl (cI, 16, .inl (upd B.kd B.1 wh))), ((o 3), .inl (cI, 48, .inl (upd (upd (upd B.mb (3 * B.1) x) ((3 * B.1) + 1) y) ((3 * B.1) + 2) z))), ((o 4), .inl (cI, 16, .inl B.nu)), ((o 5), .inl (cI, 4, .inl B.sz)), ((o 6), .inl (cI, 144, .inl B.en)), ((o 7), .inl (cI, 80, .inl od)), ((o 8), .inl (cI, 10, .inl om)), ((o 9), .inl (cI, 8, .inl be)), ((o 10), .inl (cI, 8, .inl ke)), ((o 11), .inl (cI, 9, .inl ch)), ((o 12), .inl (cI, 9, .inl tr))] := G
                    refine lv_aload_n hx hb d_MO_rule_139 rfl (lv_at hl 0 rfl) ?_
                    refine gf_MO_19 X G 0 rfl rfl d_MO_rule_140 ?_
                    refine lv_aload_n hx hb d_MO_rule_143 rfl (lv_at hl 0 rfl) ?_
                    refine gf_MO_62 X G 0 rfl rfl d_MO_rule_144 ?_
                    refine lv_iload hx hb d_MO_rule_147 (lv_at hl 5 rfl) ?_
                    refine z_iast X G 4 rfl B.1 (rfl) (by omega) (by decide) d_MO_rule_149 (fun H locs G => ?_)
                    have G : Gw D A zs.heap H locs [((o 0), .inr (5, [.int (nI cnt), .int (nI (B.1)), .int (nI lv), .ref (o 1), .ref (o 2), .ref (o 3), .ref (o 4), .ref (o 5), .ref (o 6), .ref (o 7), .ref (o 8), .int (bP (U)), .int (bP (V)), .int de, .int vi, .int fa, .int so, .ref (o 9), .ref (o 10), .ref (o 11), .ref (o 12)])), ((o 1), .inl (cI, 8, .inl dm)), ((o 2), .inl (cI, 16, .inl (upd B.kd B.1 wh))), ((o 3), .inl (cI, 48, .inl (upd (upd (upd B.mb (3 * B.1) x) ((3 * B.1) + 1) y) ((3 * B.1) + 2) z))), ((o 4), .inl (cI, 16, .inl (upd B.nu B.1 nn))), ((o 5), .inl (cI, 4, .inl B.sz)), ((o 6), .inl (cI, 144, .inl B.en)), ((o 7), .inl (cI, 80, .inl od)), ((o 8), .inl (cI, 10, .inl om)), ((o 9), .inl (cI, 8, .inl be)), ((o 10), .inl (cI, 8, .inl ke)), ((o 11), .inl (cI, 9, .inl ch)), ((o 12), .inl (cI, 9, .inl tr))] := G
                    refine lv_aload_n hx hb d_MO_rule_150 rfl (lv_at hl 0 rfl) ?_
                    refine lv_dup hx hb d_MO_rule_151 rfl ?_
                    refine gf_MO_62 X G 0 rfl rfl d_MO_rule_152 ?_
                    refine lv_iconst (v := (nI 1)) hx hb d_MO_rule_155 (by decide) ?_
                    refine zn_add hx hb d_MO_rule_156 ?_
                    refine pf_MO_62 X G 0 rfl (rfl) (rfl) (Nat.le_of_ble_eq_true rfl) d_MO_rule_157 (fun H locs G => ?_)
                    have G : Gw D A zs.heap H locs [((o 0), .inr (5, [.int (nI cnt), .int (nI (B.1 + 1)), .int (nI lv), .ref (o 1), .ref (o 2), .ref (o 3), .ref (o 4), .ref (o 5), .ref (o 6), .ref (o 7), .ref (o 8), .int (bP (U)), .int (bP (V)), .int de, .int vi, .int fa, .int so, .ref (o 9), .ref (o 10), .ref (o 11), .ref (o 12)])), ((o 1), .inl (cI, 8, .inl dm)), ((o 2), .inl (cI, 16, .inl (upd B.kd B.1 wh))), ((o 3), .inl (cI, 48, .inl (upd (upd (upd B.mb (3 * B.1) x) ((3 * B.1) + 1) y) ((3 * B.1) + 2) z))), ((o 4), .inl (cI, 16, .inl (upd B.nu B.1 nn))), ((o 5), .inl (cI, 4, .inl B.sz)), ((o 6), .inl (cI, 144, .inl B.en)), ((o 7), .inl (cI, 80, .inl od)), ((o 8), .inl (cI, 10, .inl om)), ((o 9), .inl (cI, 8, .inl be)), ((o 10), .inl (cI, 8, .inl ke)), ((o 11), .inl (cI, 9, .inl ch)), ((o 12), .inl (cI, 9, .inl tr))] := G
                    refine lv_aload_n hx hb d_MO_rule_160 rfl (lv_at hl 0 rfl) ?_
                    refine gf_MO_62 X G 0 rfl rfl d_MO_rule_161 ?_
                    refine lv_iconst (v := (nI 1)) hx hb d_MO_rule_164 (by decide) ?_
                    refine zn_sub hx hb (by omega) d_MO_rule_165 ?_
                    rw [Nat.mul_comm 3 B.1] at G
                    exact z_ret X hrt hlk G (rfl) (⟨apB B wh x y z nn, rfl, Or.inl ⟨⟨⟨h4, by omega⟩, by omega, by omega, h48, by first | exact fun h9 => absurd h9 (by omega) | exact fun _ => ⟨by omega, h77, h83⟩⟩, by rw [show B.1 + 1 - 1 = B.1 by omega], rfl⟩⟩) d_MO_rule_166
                  · skip
                    refine lv_iconst (v := (-1)) hx hb d_MO_rule_86 (by decide) ?_
                    exact z_ret X hrt hlk G (rfl) (⟨B, rfl, Or.inr ⟨by first | exact fun h9 => h71 (by have := h9.2.2.2.2 (by omega); omega) | exact fun h9 => (h9.2.2.2.2 (by omega)).2.1 h77 | exact fun h9 => (h9.2.2.2.2 (by omega)).2.2 h83, rfl, rfl⟩⟩) d_MO_rule_87
          · skip
            refine lv_iconst (v := (-1)) hx hb d_MO_rule_51 (by decide) ?_
            exact z_ret X hrt hlk G (rfl) (⟨B, rfl, Or.inr ⟨by first | exact fun h9 => h9.1.1 h4 | exact fun h9 => absurd h9.1.2 (by omega) | exact fun h9 => h28 (by have := h9.2.1; omega) | exact fun h9 => h43 (by have := h9.2.2.1; omega) | exact fun h9 => h9.2.2.2.1 h48, rfl, rfl⟩⟩) d_MO_rule_52
