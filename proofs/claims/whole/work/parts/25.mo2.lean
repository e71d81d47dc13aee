set_option maxHeartbeats 4000000 in
set_option maxRecDepth 100000 in
theorem m_differ (l : Launch) (D : va_G) (cI : ClassId) (o : Nat → Nat) (cnt lv : Nat) (B : Bk) (dm od om be ke ch tr : Nat → Int32) (U V : Prop) (de vi fa so : Int32) (x y c3 : Int32) (hc8 : cnt ≤ 8) (hn16 : B.1 ≤ 16) (hlv : lv ≤ 10) : MI l y_MO_differ b_MO_differ 4 .int 2 D cI [.ref (o 0), .int x, .int y, .int c3] [((o 0), .inr (5, [.int (nI cnt), .int (nI (B.1)), .int (nI lv), .ref (o 1), .ref (o 2), .ref (o 3), .ref (o 4), .ref (o 5), .ref (o 6), .ref (o 7), .ref (o 8), .int (bP (U)), .int (bP (V)), .int de, .int vi, .int fa, .int so, .ref (o 9), .ref (o 10), .ref (o 11), .ref (o 12)])), ((o 1), .inl (cI, 8, .inl dm)), ((o 2), .inl (cI, 16, .inl B.kd)), ((o 3), .inl (cI, 48, .inl B.mb)), ((o 4), .inl (cI, 16, .inl B.nu)), ((o 5), .inl (cI, 4, .inl B.sz)), ((o 6), .inl (cI, 144, .inl B.en)), ((o 7), .inl (cI, 80, .inl od)), ((o 8), .inl (cI, 10, .inl om)), ((o 9), .inl (cI, 8, .inl be)), ((o 10), .inl (cI, 8, .inl ke)), ((o 11), .inl (cI, 9, .inl ch)), ((o 12), .inl (cI, 9, .inl tr))] (fun r u => ∃ B1, u = [((o 0), .inr (5, [.int (nI cnt), .int (nI (B1.1)), .int (nI lv), .ref (o 1), .ref (o 2), .ref (o 3), .ref (o 4), .ref (o 5), .ref (o 6), .ref (o 7), .ref (o 8), .int (bP (U)), .int (bP (V)), .int de, .int vi, .int fa, .int so, .ref (o 9), .ref (o 10), .ref (o 11), .ref (o 12)])), ((o 1), .inl (cI, 8, .inl dm)), ((o 2), .inl (cI, 16, .inl B1.kd)), ((o 3), .inl (cI, 48, .inl B1.mb)), ((o 4), .inl (cI, 16, .inl B1.nu)), ((o 5), .inl (cI, 4, .inl B1.sz)), ((o 6), .inl (cI, 144, .inl B1.en)), ((o 7), .inl (cI, 80, .inl od)), ((o 8), .inl (cI, 10, .inl om)), ((o 9), .inl (cI, 8, .inl be)), ((o 10), .inl (cI, 8, .inl ke)), ((o 11), .inl (cI, 9, .inl ch)), ((o 12), .inl (cI, 9, .inl tr))] ∧ ((((¬ U ∧ B.1 < 16) ∧ (0 ≤ x.toInt ∧ x.toInt < cnt) ∧ (0 ≤ y.toInt ∧ y.toInt < cnt) ∧ x.toInt ≠ y.toInt ∧ -15 ≤ c3.toInt ∧ c3.toInt ≤ 15) ∧ r = nI B.1 ∧ B1 = apB B (nI 0) x y (-1) c3) ∨ (¬ ((¬ U ∧ B.1 < 16) ∧ (0 ≤ x.toInt ∧ x.toInt < cnt) ∧ (0 ≤ y.toInt ∧ y.toInt < cnt) ∧ x.toInt ≠ y.toInt ∧ -15 ≤ c3.toInt ∧ c3.toInt ≤ 15) ∧ r = -1 ∧ B1 = B))) := by
  refine MI.of (by decide) (Nat.le_of_ble_eq_true rfl) ?_
  intro zp ze zs zm zb zt zc ls A X hrt hlk G hl
  have hx := X.1
  have hb := X.2.1
  have hl : lv_has ls 4 [(0, .ref (o 0)), (1, .int x), (2, .int y), (3, .int c3)] := hl
  refine lv_aload_n hx hb d_MO_differ_0 rfl (lv_at hl 0 rfl) ?_
  refine lv_iload_n hx hb d_MO_differ_1 rfl (lv_at hl 3 rfl) ?_
  refine lv_bipush (v := (-15)) hx hb d_MO_differ_2 (by decide) ?_
  refine lv_bipush (v := (nI 15)) hx hb d_MO_differ_4 (by decide) ?_
  refine zV_R X G (m_within l D cI o cnt lv B dm od om be ke ch tr U V de vi fa so c3 (-15) (nI 15) (-15) 15 (by decide) (by decide)) lk_MO_58 [0, 1, 2, 3, 4, 5, 6, 7, 8, 9, 10, 11, 12] rfl (by decide) 0 rfl rfl ⟨by decide, by decide⟩ ⟨Nat.zero_le _, Nat.zero_le _⟩ hl.1 rfl (Nat.le_of_ble_eq_true rfl) d_MO_differ_6 (fun H locs G => ?_)
  refine zb_eq hx hb d_MO_differ_9 rfl (fun h9 => ?_) (fun h9 => ?_)
  · skip
    refine lv_iconst (v := (-1)) hx hb d_MO_differ_24 (by decide) ?_
    exact z_ret X hrt hlk G (rfl) (⟨B, rfl, Or.inr ⟨fun h8 => h9 (by have := h8.2.2.2.2; omega), rfl, rfl⟩⟩) d_MO_differ_25
  · skip
    refine lv_aload_n hx hb d_MO_differ_12 rfl (lv_at hl 0 rfl) ?_
    refine lv_iconst (v := (nI 0)) hx hb d_MO_differ_13 (by decide) ?_
    refine lv_iload_n hx hb d_MO_differ_14 rfl (lv_at hl 1 rfl) ?_
    refine lv_iload_n hx hb d_MO_differ_15 rfl (lv_at hl 2 rfl) ?_
    refine lv_iconst (v := (-1)) hx hb d_MO_differ_16 (by decide) ?_
    refine lv_iload_n hx hb d_MO_differ_17 rfl (lv_at hl 3 rfl) ?_
    refine zV_I (wr := []) X G (m_rule l D cI o cnt lv B dm od om be ke ch tr U V de vi fa so (nI 0) x y (-1) c3 (by omega) (by omega) (by omega)) lk_MO_65 [0, 1, 2, 3, 4, 5, 6, 7, 8, 9, 10, 11, 12] rfl (by decide) [] rfl (by decide) (by decide) 0 rfl rfl ⟨by decide, by decide⟩ ⟨Nat.zero_le _, Nat.zero_le _⟩ hl.1 rfl (Nat.le_of_ble_eq_true rfl) d_MO_differ_18 (fun r18 u H locs q18 G => ?_)
    obtain ⟨B1, rfl, q18⟩ := q18
    have G : Gw D A zs.heap H locs [((o 0), .inr (5, [.int (nI cnt), .int (nI (B1.1)), .int (nI lv), .ref (o 1), .ref (o 2), .ref (o 3), .ref (o 4), .ref (o 5), .ref (o 6), .ref (o 7), .ref (o 8), .int (bP (U)), .int (bP (V)), .int de, .int vi, .int fa, .int so, .ref (o 9), .ref (o 10), .ref (o 11), .ref (o 12)])), ((o 1), .inl (cI, 8, .inl dm)), ((o 2), .inl (cI, 16, .inl B1.kd)), ((o 3), .inl (cI, 48, .inl B1.mb)), ((o 4), .inl (cI, 16, .inl B1.nu)), ((o 5), .inl (cI, 4, .inl B1.sz)), ((o 6), .inl (cI, 144, .inl B1.en)), ((o 7), .inl (cI, 80, .inl od)), ((o 8), .inl (cI, 10, .inl om)), ((o 9), .inl (cI, 8, .inl be)), ((o 10), .inl (cI, 8, .inl ke)), ((o 11), .inl (cI, 9, .inl ch)), ((o 12), .inl (cI, 9, .inl tr))] := G.sub [0, 1, 2, 3, 4, 5, 6, 7, 8, 9, 10, 11, 12] (by decide) rfl
    refine lv_goto hx hb d_MO_differ_21 rfl ?_
    exact z_ret X hrt hlk G (rfl) (⟨B1, rfl, by rcases q18 with ⟨g1, g2, g3⟩ | ⟨g1, g2, g3⟩; exact Or.inl ⟨⟨g1.1, g1.2.1, g1.2.2.1, g1.2.2.2.1, h9⟩, g2, g3⟩; exact Or.inr ⟨fun h8 => g1 ⟨h8.1, h8.2.1, h8.2.2.1, h8.2.2.2.1, fun h7 => absurd h7 (by decide)⟩, g2, g3⟩⟩) d_MO_differ_25
set_option maxHeartbeats 4000000 in
set_option maxRecDepth 100000 in
theorem m_exceed (l : Launch) (D : va_G) (cI : ClassId) (o : Nat → Nat) (cnt lv : Nat) (B : Bk) (dm od om be ke ch tr : Nat → Int32) (U V : Prop) (de vi fa so : Int32) (x y c3 : Int32) (hc8 : cnt ≤ 8) (hn16 : B.1 ≤ 16) (hlv : lv ≤ 10) : MI l y_MO_exceed b_MO_exceed 4 .int 2 D cI [.ref (o 0), .int x, .int y, .int c3] [((o 0), .inr (5, [.int (nI cnt), .int (nI (B.1)), .int (nI lv), .ref (o 1), .ref (o 2), .ref (o 3), .ref (o 4), .ref (o 5), .ref (o 6), .ref (o 7), .ref (o 8), .int (bP (U)), .int (bP (V)), .int de, .int vi, .int fa, .int so, .ref (o 9), .ref (o 10), .ref (o 11), .ref (o 12)])), ((o 1), .inl (cI, 8, .inl dm)), ((o 2), .inl (cI, 16, .inl B.kd)), ((o 3), .inl (cI, 48, .inl B.mb)), ((o 4), .inl (cI, 16, .inl B.nu)), ((o 5), .inl (cI, 4, .inl B.sz)), ((o 6), .inl (cI, 144, .inl B.en)), ((o 7), .inl (cI, 80, .inl od)), ((o 8), .inl (cI, 10, .inl om)), ((o 9), .inl (cI, 8, .inl be)), ((o 10), .inl (cI, 8, .inl ke)), ((o 11), .inl (cI, 9, .inl ch)), ((o 12), .inl (cI, 9, .inl tr))] (fun r u => ∃ B1, u = [((o 0), .inr (5, [.int (nI cnt), .int (nI (B1.1)), .int (nI lv), .ref (o 1), .ref (o 2), .ref (o 3), .ref (o 4), .ref (o 5), .ref (o 6), .ref (o 7), .ref (o 8), .int (bP (U)), .int (bP (V)), .int de, .int vi, .int fa, .int so, .ref (o 9), .ref (o 10), .ref (o 11), .ref (o 12)])), ((o 1), .inl (cI, 8, .inl dm)), ((o 2), .inl (cI, 16, .inl B1.kd)), ((o 3), .inl (cI, 48, .inl B1.mb)), ((o 4), .inl (cI, 16, .inl B1.nu)), ((o 5), .inl (cI, 4, .inl B1.sz)), ((o 6), .inl (cI, 144, .inl B1.en)), ((o 7), .inl (cI, 80, .inl od)), ((o 8), .inl (cI, 10, .inl om)), ((o 9), .inl (cI, 8, .inl be)), ((o 10), .inl (cI, 8, .inl ke)), ((o 11), .inl (cI, 9, .inl ch)), ((o 12), .inl (cI, 9, .inl tr))] ∧ ((((¬ U ∧ B.1 < 16) ∧ (0 ≤ x.toInt ∧ x.toInt < cnt) ∧ (0 ≤ y.toInt ∧ y.toInt < cnt) ∧ x.toInt ≠ y.toInt ∧ -15 ≤ c3.toInt ∧ c3.toInt ≤ 15) ∧ r = nI B.1 ∧ B1 = apB B (nI 1) x y (-1) c3) ∨ (¬ ((¬ U ∧ B.1 < 16) ∧ (0 ≤ x.toInt ∧ x.toInt < cnt) ∧ (0 ≤ y.toInt ∧ y.toInt < cnt) ∧ x.toInt ≠ y.toInt ∧ -15 ≤ c3.toInt ∧ c3.toInt ≤ 15) ∧ r = -1 ∧ B1 = B))) := by
  refine MI.of (by decide) (Nat.le_of_ble_eq_true rfl) ?_
  intro zp ze zs zm zb zt zc ls A X hrt hlk G hl
  have hx := X.1
  have hb := X.2.1
  have hl : lv_has ls 4 [(0, .ref (o 0)), (1, .int x), (2, .int y), (3, .int c3)] := hl
  refine lv_aload_n hx hb d_MO_exceed_0 rfl (lv_at hl 0 rfl) ?_
  refine lv_iload_n hx hb d_MO_exceed_1 rfl (lv_at hl 3 rfl) ?_
  refine lv_bipush (v := (-15)) hx hb d_MO_exceed_2 (by decide) ?_
  refine lv_bipush (v := (nI 15)) hx hb d_MO_exceed_4 (by decide) ?_
  refine zV_R X G (m_within l D cI o cnt lv B dm od om be ke ch tr U V de vi fa so c3 (-15) (nI 15) (-15) 15 (by decide) (by decide)) lk_MO_58 [0, 1, 2, 3, 4, 5, 6, 7, 8, 9, 10, 11, 12] rfl (by decide) 0 rfl rfl ⟨by decide, by decide⟩ ⟨Nat.zero_le _, Nat.zero_le _⟩ hl.1 rfl (Nat.le_of_ble_eq_true rfl) d_MO_exceed_6 (fun H locs G => ?_)
  refine zb_eq hx hb d_MO_exceed_9 rfl (fun h9 => ?_) (fun h9 => ?_)
  · skip
    refine lv_iconst (v := (-1)) hx hb d_MO_exceed_24 (by decide) ?_
    exact z_ret X hrt hlk G (rfl) (⟨B, rfl, Or.inr ⟨fun h8 => h9 (by have := h8.2.2.2.2; omega), rfl, rfl⟩⟩) d_MO_exceed_25
  · skip
    refine lv_aload_n hx hb d_MO_exceed_12 rfl (lv_at hl 0 rfl) ?_
    refine lv_iconst (v := (nI 1)) hx hb d_MO_exceed_13 (by decide) ?_
    refine lv_iload_n hx hb d_MO_exceed_14 rfl (lv_at hl 1 rfl) ?_
    refine lv_iload_n hx hb d_MO_exceed_15 rfl (lv_at hl 2 rfl) ?_
    refine lv_iconst (v := (-1)) hx hb d_MO_exceed_16 (by decide) ?_
    refine lv_iload_n hx hb d_MO_exceed_17 rfl (lv_at hl 3 rfl) ?_
    refine zV_I (wr := []) X G (m_rule l D cI o cnt lv B dm od om be ke ch tr U V de vi fa so (nI 1) x y (-1) c3 (by omega) (by omega) (by omega)) lk_MO_65 [0, 1, 2, 3, 4, 5, 6, 7, 8, 9, 10, 11, 12] rfl (by decide) [] rfl (by decide) (by decide) 0 rfl rfl ⟨by decide, by decide⟩ ⟨Nat.zero_le _, Nat.zero_le _⟩ hl.1 rfl (Nat.le_of_ble_eq_true rfl) d_MO_exceed_18 (fun r18 u H locs q18 G => ?_)
    obtain ⟨B1, rfl, q18⟩ := q18
    have G : Gw D A zs.heap H locs [((o 0), .inr (5, [.int (nI cnt), .int (nI (B1.1)), .int (nI lv), .ref (o 1), .ref (o 2), .ref (o 3), .ref (o 4), .ref (o 5), .ref (o 6), .ref (o 7), .ref (o 8), .int (bP (U)), .int (bP (V)), .int de, .int vi, .int fa, .int so, .ref (o 9), .ref (o 10), .ref (o 11), .ref (o 12)])), ((o 1), .inl (cI, 8, .inl dm)), ((o 2), .inl (cI, 16, .inl B1.kd)), ((o 3), .inl (cI, 48, .inl B1.mb)), ((o 4), .inl (cI, 16, .inl B1.nu)), ((o 5), .inl (cI, 4, .inl B1.sz)), ((o 6), .inl (cI, 144, .inl B1.en)), ((o 7), .inl (cI, 80, .inl od)), ((o 8), .inl (cI, 10, .inl om)), ((o 9), .inl (cI, 8, .inl be)), ((o 10), .inl (cI, 8, .inl ke)), ((o 11), .inl (cI, 9, .inl ch)), ((o 12), .inl (cI, 9, .inl tr))] := G.sub [0, 1, 2, 3, 4, 5, 6, 7, 8, 9, 10, 11, 12] (by decide) rfl
    refine lv_goto hx hb d_MO_exceed_21 rfl ?_
    exact z_ret X hrt hlk G (rfl) (⟨B1, rfl, by rcases q18 with ⟨g1, g2, g3⟩ | ⟨g1, g2, g3⟩; exact Or.inl ⟨⟨g1.1, g1.2.1, g1.2.2.1, g1.2.2.2.1, h9⟩, g2, g3⟩; exact Or.inr ⟨fun h8 => g1 ⟨h8.1, h8.2.1, h8.2.2.1, h8.2.2.2.1, fun h7 => absurd h7 (by decide)⟩, g2, g3⟩⟩) d_MO_exceed_25
set_option maxHeartbeats 4000000 in
set_option maxRecDepth 100000 in
theorem m_total (l : Launch) (D : va_G) (cI : ClassId) (o : Nat → Nat) (cnt lv : Nat) (B : Bk) (dm od om be ke ch tr : Nat → Int32) (U V : Prop) (de vi fa so : Int32) (x y z c3 : Int32) (hc8 : cnt ≤ 8) (hn16 : B.1 ≤ 16) (hlv : lv ≤ 10) : MI l y_MO_total b_MO_total 5 .int 2 D cI [.ref (o 0), .int x, .int y, .int z, .int c3] [((o 0), .inr (5, [.int (nI cnt), .int (nI (B.1)), .int (nI lv), .ref (o 1), .ref (o 2), .ref (o 3), .ref (o 4), .ref (o 5), .ref (o 6), .ref (o 7), .ref (o 8), .int (bP (U)), .int (bP (V)), .int de, .int vi, .int fa, .int so, .ref (o 9), .ref (o 10), .ref (o 11), .ref (o 12)])), ((o 1), .inl (cI, 8, .inl dm)), ((o 2), .inl (cI, 16, .inl B.kd)), ((o 3), .inl (cI, 48, .inl B.mb)), ((o 4), .inl (cI, 16, .inl B.nu)), ((o 5), .inl (cI, 4, .inl B.sz)), ((o 6), .inl (cI, 144, .inl B.en)), ((o 7), .inl (cI, 80, .inl od)), ((o 8), .inl (cI, 10, .inl om)), ((o 9), .inl (cI, 8, .inl be)), ((o 10), .inl (cI, 8, .inl ke)), ((o 11), .inl (cI, 9, .inl ch)), ((o 12), .inl (cI, 9, .inl tr))] (fun r u => ∃ B1, u = [((o 0), .inr (5, [.int (nI cnt), .int (nI (B1.1)), .int (nI lv), .ref (o 1), .ref (o 2), .ref (o 3), .ref (o 4), .ref (o 5), .ref (o 6), .ref (o 7), .ref (o 8), .int (bP (U)), .int (bP (V)), .int de, .int vi, .int fa, .int so, .ref (o 9), .ref (o 10), .ref (o 11), .ref (o 12)])), ((o 1), .inl (cI, 8, .inl dm)), ((o 2), .inl (cI, 16, .inl B1.kd)), ((o 3), .inl (cI, 48, .inl B1.mb)), ((o 4), .inl (cI, 16, .inl B1.nu)), ((o 5), .inl (cI, 4, .inl B1.sz)), ((o 6), .inl (cI, 144, .inl B1.en)), ((o 7), .inl (cI, 80, .inl od)), ((o 8), .inl (cI, 10, .inl om)), ((o 9), .inl (cI, 8, .inl be)), ((o 10), .inl (cI, 8, .inl ke)), ((o 11), .inl (cI, 9, .inl ch)), ((o 12), .inl (cI, 9, .inl tr))] ∧ ((((¬ U ∧ B.1 < 16) ∧ ((0 ≤ x.toInt ∧ x.toInt < cnt) ∧ (0 ≤ y.toInt ∧ y.toInt < cnt) ∧ (0 ≤ z.toInt ∧ z.toInt < cnt) ∧ x.toInt ≠ y.toInt ∧ y.toInt ≠ z.toInt ∧ x.toInt ≠ z.toInt) ∧ 0 ≤ c3.toInt ∧ c3.toInt ≤ 45) ∧ r = nI B.1 ∧ B1 = apB B (nI 2) x y z c3) ∨ (¬ ((¬ U ∧ B.1 < 16) ∧ ((0 ≤ x.toInt ∧ x.toInt < cnt) ∧ (0 ≤ y.toInt ∧ y.toInt < cnt) ∧ (0 ≤ z.toInt ∧ z.toInt < cnt) ∧ x.toInt ≠ y.toInt ∧ y.toInt ≠ z.toInt ∧ x.toInt ≠ z.toInt) ∧ 0 ≤ c3.toInt ∧ c3.toInt ≤ 45) ∧ r = -1 ∧ B1 = B))) := by
  refine MI.of (by decide) (Nat.le_of_ble_eq_true rfl) ?_
  intro zp ze zs zm zb zt zc ls A X hrt hlk G hl
  have hx := X.1
  have hb := X.2.1
  have hl : lv_has ls 5 [(0, .ref (o 0)), (1, .int x), (2, .int y), (3, .int z), (4, .int c3)] := hl
  refine lv_aload_n hx hb d_MO_total_0 rfl (lv_at hl 0 rfl) ?_
  refine lv_iload hx hb d_MO_total_1 (lv_at hl 4 rfl) ?_
  refine lv_iconst (v := (nI 0)) hx hb d_MO_total_3 (by decide) ?_
  refine lv_bipush (v := (nI 45)) hx hb d_MO_total_4 (by decide) ?_
  refine zV_R X G (m_within l D cI o cnt lv B dm od om be ke ch tr U V de vi fa so c3 (nI 0) (nI 45) 0 45 (by decide) (by decide)) lk_MO_58 [0, 1, 2, 3, 4, 5, 6, 7, 8, 9, 10, 11, 12] rfl (by decide) 0 rfl rfl ⟨by decide, by decide⟩ ⟨Nat.zero_le _, Nat.zero_le _⟩ hl.1 rfl (Nat.le_of_ble_eq_true rfl) d_MO_total_6 (fun H locs G => ?_)
  refine zb_eq hx hb d_MO_total_9 rfl (fun h9 => ?_) (fun h9 => ?_)
  · skip
    refine lv_iconst (v := (-1)) hx hb d_MO_total_25 (by decide) ?_
    exact z_ret X hrt hlk G (rfl) (⟨B, rfl, Or.inr ⟨fun h8 => h9 (by have := h8.2.2; omega), rfl, rfl⟩⟩) d_MO_total_26
  · skip
    refine lv_aload_n hx hb d_MO_total_12 rfl (lv_at hl 0 rfl) ?_
    refine lv_iconst (v := (nI 2)) hx hb d_MO_total_13 (by decide) ?_
    refine lv_iload_n hx hb d_MO_total_14 rfl (lv_at hl 1 rfl) ?_
    refine lv_iload_n hx hb d_MO_total_15 rfl (lv_at hl 2 rfl) ?_
    refine lv_iload_n hx hb d_MO_total_16 rfl (lv_at hl 3 rfl) ?_
    refine lv_iload hx hb d_MO_total_17 (lv_at hl 4 rfl) ?_
    refine zV_I (wr := []) X G (m_rule l D cI o cnt lv B dm od om be ke ch tr U V de vi fa so (nI 2) x y z c3 (by omega) (by omega) (by omega)) lk_MO_65 [0, 1, 2, 3, 4, 5, 6, 7, 8, 9, 10, 11, 12] rfl (by decide) [] rfl (by decide) (by decide) 0 rfl rfl ⟨by decide, by decide⟩ ⟨Nat.zero_le _, Nat.zero_le _⟩ hl.1 rfl (Nat.le_of_ble_eq_true rfl) d_MO_total_19 (fun r19 u H locs q19 G => ?_)
    obtain ⟨B1, rfl, q19⟩ := q19
    have G : Gw D A zs.heap H locs [((o 0), .inr (5, [.int (nI cnt), .int (nI (B1.1)), .int (nI lv), .ref (o 1), .ref (o 2), .ref (o 3), .ref (o 4), .ref (o 5), .ref (o 6), .ref (o 7), .ref (o 8), .int (bP (U)), .int (bP (V)), .int de, .int vi, .int fa, .int so, .ref (o 9), .ref (o 10), .ref (o 11), .ref (o 12)])), ((o 1), .inl (cI, 8, .inl dm)), ((o 2), .inl (cI, 16, .inl B1.kd)), ((o 3), .inl (cI, 48, .inl B1.mb)), ((o 4), .inl (cI, 16, .inl B1.nu)), ((o 5), .inl (cI, 4, .inl B1.sz)), ((o 6), .inl (cI, 144, .inl B1.en)), ((o 7), .inl (cI, 80, .inl od)), ((o 8), .inl (cI, 10, .inl om)), ((o 9), .inl (cI, 8, .inl be)), ((o 10), .inl (cI, 8, .inl ke)), ((o 11), .inl (cI, 9, .inl ch)), ((o 12), .inl (cI, 9, .inl tr))] := G.sub [0, 1, 2, 3, 4, 5, 6, 7, 8, 9, 10, 11, 12] (by decide) rfl
    refine lv_goto hx hb d_MO_total_22 rfl ?_
    exact z_ret X hrt hlk G (rfl) (⟨B1, rfl, by rcases q19 with ⟨g1, g2, g3⟩ | ⟨g1, g2, g3⟩; exact Or.inl ⟨⟨g1.1, ⟨g1.2.1, g1.2.2.1, (g1.2.2.2.2 (by decide)).1, g1.2.2.2.1, fun e9 => (g1.2.2.2.2 (by decide)).2.2 e9.symm, fun e9 => (g1.2.2.2.2 (by decide)).2.1 e9.symm⟩, h9⟩, g2, g3⟩; exact Or.inr ⟨fun h8 => g1 ⟨h8.1, h8.2.1.1, h8.2.1.2.1, h8.2.1.2.2.2.1, fun _ => ⟨h8.2.1.2.2.1, fun e9 => h8.2.1.2.2.2.2.2 e9.symm, fun e9 => h8.2.1.2.2.2.2.1 e9.symm⟩⟩, g2, g3⟩⟩) d_MO_total_26
set_option maxHeartbeats 4000000 in
set_option maxRecDepth 100000 in
theorem m_listed (l : Launch) (D : va_G) (cI : ClassId) (o : Nat → Nat) (cnt lv : Nat) (B : Bk) (dm od om be ke ch tr : Nat → Int32) (U V : Prop) (de vi fa so : Int32) (c3 x y z : Int32) (hc8 : cnt ≤ 8) (hn16 : B.1 ≤ 16) (hlv : lv ≤ 10) : MI l y_MO_listed b_MO_listed 5 .int 2 D cI [.ref (o 0), .int c3, .int x, .int y, .int z] [((o 0), .inr (5, [.int (nI cnt), .int (nI (B.1)), .int (nI lv), .ref (o 1), .ref (o 2), .ref (o 3), .ref (o 4), .ref (o 5), .ref (o 6), .ref (o 7), .ref (o 8), .int (bP (U)), .int (bP (V)), .int de, .int vi, .int fa, .int so, .ref (o 9), .ref (o 10), .ref (o 11), .ref (o 12)])), ((o 1), .inl (cI, 8, .inl dm)), ((o 2), .inl (cI, 16, .inl B.kd)), ((o 3), .inl (cI, 48, .inl B.mb)), ((o 4), .inl (cI, 16, .inl B.nu)), ((o 5), .inl (cI, 4, .inl B.sz)), ((o 6), .inl (cI, 144, .inl B.en)), ((o 7), .inl (cI, 80, .inl od)), ((o 8), .inl (cI, 10, .inl om)), ((o 9), .inl (cI, 8, .inl be)), ((o 10), .inl (cI, 8, .inl ke)), ((o 11), .inl (cI, 9, .inl ch)), ((o 12), .inl (cI, 9, .inl tr))] (fun r u => ∃ B1, u = [((o 0), .inr (5, [.int (nI cnt), .int (nI (B1.1)), .int (nI lv), .ref (o 1), .ref (o 2), .ref (o 3), .ref (o 4), .ref (o 5), .ref (o 6), .ref (o 7), .ref (o 8), .int (bP (U)), .int (bP (V)), .int de, .int vi, .int fa, .int so, .ref (o 9), .ref (o 10), .ref (o 11), .ref (o 12)])), ((o 1), .inl (cI, 8, .inl dm)), ((o 2), .inl (cI, 16, .inl B1.kd)), ((o 3), .inl (cI, 48, .inl B1.mb)), ((o 4), .inl (cI, 16, .inl B1.nu)), ((o 5), .inl (cI, 4, .inl B1.sz)), ((o 6), .inl (cI, 144, .inl B1.en)), ((o 7), .inl (cI, 80, .inl od)), ((o 8), .inl (cI, 10, .inl om)), ((o 9), .inl (cI, 8, .inl be)), ((o 10), .inl (cI, 8, .inl ke)), ((o 11), .inl (cI, 9, .inl ch)), ((o 12), .inl (cI, 9, .inl tr))] ∧ ((((¬ U ∧ B.1 < 16) ∧ (0 ≤ c3.toInt ∧ c3.toInt < 4) ∧ ((0 ≤ x.toInt ∧ x.toInt < cnt) ∧ (0 ≤ y.toInt ∧ y.toInt < cnt) ∧ (0 ≤ z.toInt ∧ z.toInt < cnt) ∧ x.toInt ≠ y.toInt ∧ y.toInt ≠ z.toInt ∧ x.toInt ≠ z.toInt)) ∧ r = nI B.1 ∧ B1 = apB B (nI 3) x y z c3) ∨ (¬ ((¬ U ∧ B.1 < 16) ∧ (0 ≤ c3.toInt ∧ c3.toInt < 4) ∧ ((0 ≤ x.toInt ∧ x.toInt < cnt) ∧ (0 ≤ y.toInt ∧ y.toInt < cnt) ∧ (0 ≤ z.toInt ∧ z.toInt < cnt) ∧ x.toInt ≠ y.toInt ∧ y.toInt ≠ z.toInt ∧ x.toInt ≠ z.toInt)) ∧ r = -1 ∧ B1 = B))) := by
  refine MI.of (by decide) (Nat.le_of_ble_eq_true rfl) ?_
  intro zp ze zs zm zb zt zc ls A X hrt hlk G hl
  have hx := X.1
  have hb := X.2.1
  have hl : lv_has ls 5 [(0, .ref (o 0)), (1, .int c3), (2, .int x), (3, .int y), (4, .int z)] := hl
  refine lv_aload_n hx hb d_MO_listed_0 rfl (lv_at hl 0 rfl) ?_
  refine lv_iload_n hx hb d_MO_listed_1 rfl (lv_at hl 1 rfl) ?_
  refine lv_iconst (v := (nI 0)) hx hb d_MO_listed_2 (by decide) ?_
  refine lv_iconst (v := (nI 3)) hx hb d_MO_listed_3 (by decide) ?_
  refine zV_R X G (m_within l D cI o cnt lv B dm od om be ke ch tr U V de vi fa so c3 (nI 0) (nI 3) 0 3 (by decide) (by decide)) lk_MO_58 [0, 1, 2, 3, 4, 5, 6, 7, 8, 9, 10, 11, 12] rfl (by decide) 0 rfl rfl ⟨by decide, by decide⟩ ⟨Nat.zero_le _, Nat.zero_le _⟩ hl.1 rfl (Nat.le_of_ble_eq_true rfl) d_MO_listed_4 (fun H locs G => ?_)
  refine zb_eq hx hb d_MO_listed_7 rfl (fun h7 => ?_) (fun h7 => ?_)
  · skip
    refine lv_iconst (v := (-1)) hx hb d_MO_listed_23 (by decide) ?_
    exact z_ret X hrt hlk G (rfl) (⟨B, rfl, Or.inr ⟨fun h8 => h7 (by have := h8.2.1; omega), rfl, rfl⟩⟩) d_MO_listed_24
  · skip
    refine lv_aload_n hx hb d_MO_listed_10 rfl (lv_at hl 0 rfl) ?_
    refine lv_iconst (v := (nI 3)) hx hb d_MO_listed_11 (by decide) ?_
    refine lv_iload_n hx hb d_MO_listed_12 rfl (lv_at hl 2 rfl) ?_
    refine lv_iload_n hx hb d_MO_listed_13 rfl (lv_at hl 3 rfl) ?_
    refine lv_iload hx hb d_MO_listed_14 (lv_at hl 4 rfl) ?_
    refine lv_iload_n hx hb d_MO_listed_16 rfl (lv_at hl 1 rfl) ?_
    refine zV_I (wr := []) X G (m_rule l D cI o cnt lv B dm od om be ke ch tr U V de vi fa so (nI 3) x y z c3 (by omega) (by omega) (by omega)) lk_MO_65 [0, 1, 2, 3, 4, 5, 6, 7, 8, 9, 10, 11, 12] rfl (by decide) [] rfl (by decide) (by decide) 0 rfl rfl ⟨by decide, by decide⟩ ⟨Nat.zero_le _, Nat.zero_le _⟩ hl.1 rfl (Nat.le_of_ble_eq_true rfl) d_MO_listed_17 (fun r17 u H locs q17 G => ?_)
    obtain ⟨B1, rfl, q17⟩ := q17
    have G : Gw D A zs.heap H locs [((o 0), .inr (5, [.int (nI cnt), .int (nI (B1.1)), .int (nI lv), .ref (o 1), .ref (o 2), .ref (o 3), .ref (o 4), .ref (o 5), .ref (o 6), .ref (o 7), .ref (o 8), .int (bP (U)), .int (bP (V)), .int de, .int vi, .int fa, .int so, .ref (o 9), .ref (o 10), .ref (o 11), .ref (o 12)])), ((o 1), .inl (cI, 8, .inl dm)), ((o 2), .inl (cI, 16, .inl B1.kd)), ((o 3), .inl (cI, 48, .inl B1.mb)), ((o 4), .inl (cI, 16, .inl B1.nu)), ((o 5), .inl (cI, 4, .inl B1.sz)), ((o 6), .inl (cI, 144, .inl B1.en)), ((o 7), .inl (cI, 80, .inl od)), ((o 8), .inl (cI, 10, .inl om)), ((o 9), .inl (cI, 8, .inl be)), ((o 10), .inl (cI, 8, .inl ke)), ((o 11), .inl (cI, 9, .inl ch)), ((o 12), .inl (cI, 9, .inl tr))] := G.sub [0, 1, 2, 3, 4, 5, 6, 7, 8, 9, 10, 11, 12] (by decide) rfl
    refine lv_goto hx hb d_MO_listed_20 rfl ?_
    exact z_ret X hrt hlk G (rfl) (⟨B1, rfl, by rcases q17 with ⟨g1, g2, g3⟩ | ⟨g1, g2, g3⟩; exact Or.inl ⟨⟨g1.1, by omega, ⟨g1.2.1, g1.2.2.1, (g1.2.2.2.2 (by decide)).1, g1.2.2.2.1, fun e9 => (g1.2.2.2.2 (by decide)).2.2 e9.symm, fun e9 => (g1.2.2.2.2 (by decide)).2.1 e9.symm⟩⟩, g2, g3⟩; exact Or.inr ⟨fun h8 => g1 ⟨h8.1, h8.2.2.1, h8.2.2.2.1, h8.2.2.2.2.2.1, fun _ => ⟨h8.2.2.2.2.1, fun e9 => h8.2.2.2.2.2.2.2 e9.symm, fun e9 => h8.2.2.2.2.2.2.1 e9.symm⟩⟩, g2, g3⟩⟩) d_MO_listed_24
set_option maxHeartbeats 4000000 in
set_option maxRecDepth 100000 in
theorem m_remove (l : Launch) (D : va_G) (cI : ClassId) (o : Nat → Nat) (cnt lv : Nat) (B : Bk) (dm od om be ke ch tr : Nat → Int32) (U V : Prop) (de vi fa so : Int32) (x v : Int32) (hD : DOk cnt dm) (hc8 : cnt ≤ 8) (hn16 : B.1 ≤ 16) (hlv : lv ≤ 10) : MI l y_MO_remove b_MO_remove 4 .boolean 1 D cI [.ref (o 0), .int x, .int v] [((o 0), .inr (5, [.int (nI cnt), .int (nI (B.1)), .int (nI lv), .ref (o 1), .ref (o 2), .ref (o 3), .ref (o 4), .ref (o 5), .ref (o 6), .ref (o 7), .ref (o 8), .int (bP (U)), .int (bP (V)), .int de, .int vi, .int fa, .int so, .ref (o 9), .ref (o 10), .ref (o 11), .ref (o 12)])), ((o 1), .inl (cI, 8, .inl dm)), ((o 2), .inl (cI, 16, .inl B.kd)), ((o 3), .inl (cI, 48, .inl B.mb)), ((o 4), .inl (cI, 16, .inl B.nu)), ((o 5), .inl (cI, 4, .inl B.sz)), ((o 6), .inl (cI, 144, .inl B.en)), ((o 7), .inl (cI, 80, .inl od)), ((o 8), .inl (cI, 10, .inl om)), ((o 9), .inl (cI, 8, .inl be)), ((o 10), .inl (cI, 8, .inl ke)), ((o 11), .inl (cI, 9, .inl ch)), ((o 12), .inl (cI, 9, .inl tr))] (fun r u => ((¬ U ∧ ∃ xx vv, xx < cnt ∧ vv < 16 ∧ x = nI xx ∧ v = nI vv ∧ bt (dm xx) vv = true ∧ 1 < pcn (dm xx)) ∧ r = 1 ∧ ∃ xx vv, xx < cnt ∧ vv < 16 ∧ x = nI xx ∧ v = nI vv ∧ u = [((o 0), .inr (5, [.int (nI cnt), .int (nI (B.1)), .int (nI lv), .ref (o 1), .ref (o 2), .ref (o 3), .ref (o 4), .ref (o 5), .ref (o 6), .ref (o 7), .ref (o 8), .int (bP (U)), .int (bP (V)), .int de, .int vi, .int fa, .int so, .ref (o 9), .ref (o 10), .ref (o 11), .ref (o 12)])), ((o 1), .inl (cI, 8, .inl (upd dm xx (dm xx ^^^ (nI 1 <<< (nI vv &&& 31)))))), ((o 2), .inl (cI, 16, .inl B.kd)), ((o 3), .inl (cI, 48, .inl B.mb)), ((o 4), .inl (cI, 16, .inl B.nu)), ((o 5), .inl (cI, 4, .inl B.sz)), ((o 6), .inl (cI, 144, .inl B.en)), ((o 7), .inl (cI, 80, .inl od)), ((o 8), .inl (cI, 10, .inl om)), ((o 9), .inl (cI, 8, .inl be)), ((o 10), .inl (cI, 8, .inl ke)), ((o 11), .inl (cI, 9, .inl ch)), ((o 12), .inl (cI, 9, .inl tr))]) ∨ (¬ (¬ U ∧ ∃ xx vv, xx < cnt ∧ vv < 16 ∧ x = nI xx ∧ v = nI vv ∧ bt (dm xx) vv = true ∧ 1 < pcn (dm xx)) ∧ r = 0 ∧ u = [((o 0), .inr (5, [.int (nI cnt), .int (nI (B.1)), .int (nI lv), .ref (o 1), .ref (o 2), .ref (o 3), .ref (o 4), .ref (o 5), .ref (o 6), .ref (o 7), .ref (o 8), .int (bP (U)), .int (bP (V)), .int de, .int vi, .int fa, .int so, .ref (o 9), .ref (o 10), .ref (o 11), .ref (o 12)])), ((o 1), .inl (cI, 8, .inl dm)), ((o 2), .inl (cI, 16, .inl B.kd)), ((o 3), .inl (cI, 48, .inl B.mb)), ((o 4), .inl (cI, 16, .inl B.nu)), ((o 5), .inl (cI, 4, .inl B.sz)), ((o 6), .inl (cI, 144, .inl B.en)), ((o 7), .inl (cI, 80, .inl od)), ((o 8), .inl (cI, 10, .inl om)), ((o 9), .inl (cI, 8, .inl be)), ((o 10), .inl (cI, 8, .inl ke)), ((o 11), .inl (cI, 9, .inl ch)), ((o 12), .inl (cI, 9, .inl tr))])) := by
  refine MI.of (by decide) (Nat.le_of_ble_eq_true rfl) ?_
  intro zp ze zs zm zb zt zc ls A X hrt hlk G hl
  have hx := X.1
  have hb := X.2.1
  have hl : lv_has ls 4 [(0, .ref (o 0)), (1, .int x), (2, .int v)] := hl
  refine lv_aload_n hx hb d_MO_remove_0 rfl (lv_at hl 0 rfl) ?_
  refine gf_MO_46 X G 0 rfl rfl d_MO_remove_1 ?_
  refine zb_ne hx hb d_MO_remove_4 rfl (fun h4 => ?_) (fun h4 => ?_)
  · skip
    refine lv_iconst (v := (nI 0)) hx hb d_MO_remove_33 (by decide) ?_
    exact z_ret X hrt hlk G (rfl) (Or.inr ⟨by first | exact fun h9 => h9.1 h4 | (rintro ⟨_, x9, v9, hx9, hv9, ex9, ev9, _⟩; have b1 := congrArg Int32.toInt ex9; have b2 := congrArg Int32.toInt ev9; rw [nI_toInt (by omega)] at b1 b2; first | exact h19 (by omega) | exact h30 (by omega)), rfl, rfl⟩) d_MO_remove_34
  · skip
    refine lv_aload_n hx hb d_MO_remove_7 rfl (lv_at hl 0 rfl) ?_
    refine lv_iload_n hx hb d_MO_remove_8 rfl (lv_at hl 1 rfl) ?_
    refine lv_iconst (v := (nI 0)) hx hb d_MO_remove_9 (by decide) ?_
    refine lv_aload_n hx hb d_MO_remove_10 rfl (lv_at hl 0 rfl) ?_
    refine gf_MO_54 X G 0 rfl rfl d_MO_remove_11 ?_
    refine lv_iconst (v := (nI 1)) hx hb d_MO_remove_14 (by decide) ?_
    refine lv_isub hx hb d_MO_remove_15 ?_
    refine z_top (nI cnt - 1) (rfl) ?_
    refine zV_R X G (m_within l D cI o cnt lv B dm od om be ke ch tr U V de vi fa so x (nI 0) (nI cnt - 1) 0 (((cnt : Nat) : Int) - 1) (by decide) (dp_toInt (by omega))) lk_MO_58 [0, 1, 2, 3, 4, 5, 6, 7, 8, 9, 10, 11, 12] rfl (by decide) 0 rfl rfl ⟨by decide, by decide⟩ ⟨Nat.zero_le _, Nat.zero_le _⟩ hl.1 rfl (Nat.le_of_ble_eq_true rfl) d_MO_remove_16 (fun H locs G => ?_)
    refine zb_eq hx hb d_MO_remove_19 rfl (fun h19 => ?_) (fun h19 => ?_)
    · skip
      refine lv_iconst (v := (nI 0)) hx hb d_MO_remove_33 (by decide) ?_
      exact z_ret X hrt hlk G (rfl) (Or.inr ⟨by first | exact fun h9 => h9.1 h4 | (rintro ⟨_, x9, v9, hx9, hv9, ex9, ev9, _⟩; have b1 := congrArg Int32.toInt ex9; have b2 := congrArg Int32.toInt ev9; rw [nI_toInt (by omega)] at b1 b2; first | exact h19 (by omega) | exact h30 (by omega)), rfl, rfl⟩) d_MO_remove_34
    · skip
      refine lv_aload_n hx hb d_MO_remove_22 rfl (lv_at hl 0 rfl) ?_
      refine lv_iload_n hx hb d_MO_remove_23 rfl (lv_at hl 2 rfl) ?_
      refine lv_iconst (v := (nI 0)) hx hb d_MO_remove_24 (by decide) ?_
      refine lv_bipush (v := (nI 15)) hx hb d_MO_remove_25 (by decide) ?_
      refine zV_R X G (m_within l D cI o cnt lv B dm od om be ke ch tr U V de vi fa so v (nI 0) (nI 15) 0 15 (by decide) (by decide)) lk_MO_58 [0, 1, 2, 3, 4, 5, 6, 7, 8, 9, 10, 11, 12] rfl (by decide) 0 rfl rfl ⟨by decide, by decide⟩ ⟨Nat.zero_le _, Nat.zero_le _⟩ hl.1 rfl (Nat.le_of_ble_eq_true rfl) d_MO_remove_27 (fun H locs G => ?_)
      refine zb_ne hx hb d_MO_remove_30 rfl (fun h30 => ?_) (fun h30 => ?_)
      · skip
        obtain ⟨xx, hxc, hxx⟩ := nI_ex (k := cnt) (v := x) (by omega) (by omega) (by omega)
        obtain ⟨vv, hv16, hvv⟩ := nI_ex (k := 16) (v := v) (by omega) (by omega) (by decide)
        rw [hxx, hvv] at hl
        have hlo := hD.lo xx
        refine lv_aload_n hx hb d_MO_remove_35 rfl (lv_at hl 0 rfl) ?_
        refine gf_MO_7 X G 0 rfl rfl d_MO_remove_36 ?_
        refine lv_iload_n hx hb d_MO_remove_39 rfl (lv_at hl 1 rfl) ?_
        refine z_iald X G 1 rfl xx (rfl) (by omega) (by decide) d_MO_remove_40 ?_
        refine lv_iconst (v := (nI 1)) hx hb d_MO_remove_41 (by decide) ?_
        refine lv_iload_n hx hb d_MO_remove_42 rfl (lv_at hl 2 rfl) ?_
        refine lv_ishl hx hb d_MO_remove_43 ?_
        refine lv_iconst (v := (-1)) hx hb d_MO_remove_44 (by decide) ?_
        refine lv_ixor hx hb d_MO_remove_45 ?_
        refine lv_iand hx hb d_MO_remove_46 ?_
        refine lv_istore_n hx hb d_MO_remove_47 rfl hl (by decide) rfl (fun ls hl => ?_)
        have hl : lv_has ls 4 [(3, .int ((dm xx) &&& (((nI 1) <<< ((nI vv) &&& 31)) ^^^ (-1)))), (0, .ref (o 0)), (1, .int (nI xx)), (2, .int (nI vv))] := hl
        refine lv_iload_n hx hb d_MO_remove_48 rfl (lv_at hl 0 rfl) ?_
        refine lv_aload_n hx hb d_MO_remove_49 rfl (lv_at hl 1 rfl) ?_
        refine gf_MO_7 X G 0 rfl rfl d_MO_remove_50 ?_
        refine lv_iload_n hx hb d_MO_remove_53 rfl (lv_at hl 2 rfl) ?_
        refine z_iald X G 1 rfl xx (rfl) (by omega) (by decide) d_MO_remove_54 ?_
        refine zi_icmp_eq hx hb d_MO_remove_55 rfl rfl rfl (fun h55 => ?_) (fun h55 => ?_)
        · skip
          refine lv_iconst (v := (nI 0)) hx hb d_MO_remove_62 (by decide) ?_
          exact z_ret X hrt hlk G (rfl) (Or.inr ⟨by (rintro ⟨_, x9, v9, hx9, hv9, ex9, ev9, b9, o9⟩; have e8 : x9 = xx := (nI_eq (by omega) (by omega)).mp (ex9.symm.trans hxx); have e7 : v9 = vv := (nI_eq (by omega) (by omega)).mp (ev9.symm.trans hvv); subst e8; subst e7; first | (rw [rem_eq hv9 b9] at h55; exact rem_ne hv9 b9 (Int32.toInt_inj.mp h55)) | (rw [rem_eq hv9 b9] at h59; exact (rem_0 hlo hv9 b9).mp (t_nat (n := 0) h59 (by decide)) o9)), rfl, rfl⟩) d_MO_remove_63
        · skip
          refine lv_iload_n hx hb d_MO_remove_58 rfl (lv_at hl 0 rfl) ?_
          refine zi_if_ne hx hb d_MO_remove_59 rfl rfl (fun h59 => ?_) (fun h59 => ?_)
          · skip
            refine lv_aload_n hx hb d_MO_remove_64 rfl (lv_at hl 1 rfl) ?_
            refine gf_MO_7 X G 0 rfl rfl d_MO_remove_65 ?_
            refine lv_iload_n hx hb d_MO_remove_68 rfl (lv_at hl 2 rfl) ?_
            refine lv_iload_n hx hb d_MO_remove_69 rfl (lv_at hl 0 rfl) ?_
            refine z_iast X G 1 rfl xx (rfl) (by omega) (by decide) d_MO_remove_70 (fun H locs G => ?_)
            have G : Gw D A zs.heap H locs [((o 0), .inr (5, [.int (nI cnt), .int (nI (B.1)), .int (nI lv), .ref (o 1), .ref (o 2), .ref (o 3), .ref (o 4), .ref (o 5), .ref (o 6), .ref (o 7), .ref (o 8), .int (bP (U)), .int (bP (V)), .int de, .int vi, .int fa, .int so, .ref (o 9), .ref (o 10), .ref (o 11), .ref (o 12)])), ((o 1), .inl (cI, 8, .inl (upd dm xx ((dm xx) &&& (((nI 1) <<< ((nI vv) &&& 31)) ^^^ (-1)))))), ((o 2), .inl (cI, 16, .inl B.kd)), ((o 3), .inl (cI, 48, .inl B.mb)), ((o 4), .inl (cI, 16, .inl B.nu)), ((o 5), .inl (cI, 4, .inl B.sz)), ((o 6), .inl (cI, 144, .inl B.en)), ((o 7), .inl (cI, 80, .inl od)), ((o 8), .inl (cI, 10, .inl om)), ((o 9), .inl (cI, 8, .inl be)), ((o 10), .inl (cI, 8, .inl ke)), ((o 11), .inl (cI, 9, .inl ch)), ((o 12), .inl (cI, 9, .inl tr))] := G
            refine lv_iconst (v := (nI 1)) hx hb d_MO_remove_71 (by decide) ?_
            have hbt : bt (dm xx) vv = true := by
              cases e9 : bt (dm xx) vv with
              | true => rfl
              | false => exact absurd (congrArg Int32.toInt (rem_no hv16 e9)) h55
            rw [rem_eq hv16 hbt] at G h59
            have ho : 1 < pcn (dm xx) := Classical.byContradiction fun h9 => h59 (by rw [(rem_0 hlo hv16 hbt).mpr h9]; rfl)
            exact z_ret X hrt hlk G (rfl) (Or.inl ⟨⟨h4, xx, vv, hxc, hv16, hxx, hvv, hbt, ho⟩, rfl, xx, vv, hxc, hv16, hxx, hvv, rfl⟩) d_MO_remove_72
          · skip
            refine lv_iconst (v := (nI 0)) hx hb d_MO_remove_62 (by decide) ?_
            exact z_ret X hrt hlk G (rfl) (Or.inr ⟨by (rintro ⟨_, x9, v9, hx9, hv9, ex9, ev9, b9, o9⟩; have e8 : x9 = xx := (nI_eq (by omega) (by omega)).mp (ex9.symm.trans hxx); have e7 : v9 = vv := (nI_eq (by omega) (by omega)).mp (ev9.symm.trans hvv); subst e8; subst e7; first | (rw [rem_eq hv9 b9] at h55; exact rem_ne hv9 b9 (Int32.toInt_inj.mp h55)) | (rw [rem_eq hv9 b9] at h59; exact (rem_0 hlo hv9 b9).mp (t_nat (n := 0) h59 (by decide)) o9)), rfl, rfl⟩) d_MO_remove_63
      · skip
        refine lv_iconst (v := (nI 0)) hx hb d_MO_remove_33 (by decide) ?_
        exact z_ret X hrt hlk G (rfl) (Or.inr ⟨by first | exact fun h9 => h9.1 h4 | (rintro ⟨_, x9, v9, hx9, hv9, ex9, ev9, _⟩; have b1 := congrArg Int32.toInt ex9; have b2 := congrArg Int32.toInt ev9; rw [nI_toInt (by omega)] at b1 b2; first | exact h19 (by omega) | exact h30 (by omega)), rfl, rfl⟩) d_MO_remove_34
set_option maxHeartbeats 4000000 in
set_option maxRecDepth 100000 in
theorem m_has (l : Launch) (D : va_G) (cI : ClassId) (o : Nat → Nat) (cnt lv : Nat) (B : Bk) (dm od om be ke ch tr : Nat → Int32) (U V : Prop) (de vi fa so : Int32) (x v : Nat) (hx8 : x < 8) (hv : v < 16) : MR l y_MO_has b_MO_has 3 .boolean 0 D cI [.ref (o 0), .int (nI x), .int (nI v)] [((o 0), .inr (5, [.int (nI cnt), .int (nI (B.1)), .int (nI lv), .ref (o 1), .ref (o 2), .ref (o 3), .ref (o 4), .ref (o 5), .ref (o 6), .ref (o 7), .ref (o 8), .int (bP (U)), .int (bP (V)), .int de, .int vi, .int fa, .int so, .ref (o 9), .ref (o 10), .ref (o 11), .ref (o 12)])), ((o 1), .inl (cI, 8, .inl dm)), ((o 2), .inl (cI, 16, .inl B.kd)), ((o 3), .inl (cI, 48, .inl B.mb)), ((o 4), .inl (cI, 16, .inl B.nu)), ((o 5), .inl (cI, 4, .inl B.sz)), ((o 6), .inl (cI, 144, .inl B.en)), ((o 7), .inl (cI, 80, .inl od)), ((o 8), .inl (cI, 10, .inl om)), ((o 9), .inl (cI, 8, .inl be)), ((o 10), .inl (cI, 8, .inl ke)), ((o 11), .inl (cI, 9, .inl ch)), ((o 12), .inl (cI, 9, .inl tr))] (bP (bt (dm x) v = true)) := by
  refine MI.of (by decide) (Nat.le_of_ble_eq_true rfl) ?_
  intro zp ze zs zm zb zt zc ls A X hrt hlk G hl
  have hx := X.1
  have hb := X.2.1
  have hl : lv_has ls 3 [(0, .ref (o 0)), (1, .int (nI x)), (2, .int (nI v))] := hl
  refine lv_aload_n hx hb d_MO_has_0 rfl (lv_at hl 0 rfl) ?_
  refine gf_MO_7 X G 0 rfl rfl d_MO_has_1 ?_
  refine lv_iload_n hx hb d_MO_has_4 rfl (lv_at hl 1 rfl) ?_
  refine z_iald X G 1 rfl x (rfl) (by omega) (by decide) d_MO_has_5 ?_
  refine lv_iload_n hx hb d_MO_has_6 rfl (lv_at hl 2 rfl) ?_
  refine lv_ishr hx hb d_MO_has_7 ?_
  refine lv_iconst (v := (nI 1)) hx hb d_MO_has_8 (by decide) ?_
  refine lv_iand hx hb d_MO_has_9 ?_
  refine z_top (bP (bt (dm x) v = true)) (bit1P (dm x) (by omega)) ?_
  refine lv_iconst (v := (nI 1)) hx hb d_MO_has_10 (by decide) ?_
  refine zb_i1_ne hx hb d_MO_has_11 rfl (fun h11 => ?_) (fun h11 => ?_)
  · skip
    refine lv_iconst (v := (nI 0)) hx hb d_MO_has_18 (by decide) ?_
    exact z_ret X hrt hlk G (rfl) (⟨bP_0 (h11), rfl⟩) d_MO_has_19
  · skip
    refine lv_iconst (v := (nI 1)) hx hb d_MO_has_14 (by decide) ?_
    refine lv_goto hx hb d_MO_has_15 rfl ?_
    exact z_ret X hrt hlk G (rfl) (⟨bP_1 (h11), rfl⟩) d_MO_has_19
set_option maxHeartbeats 4000000 in
set_option maxRecDepth 100000 in
theorem m_matches (l : Launch) (D : va_G) (cI : ClassId) (o : Nat → Nat) (cnt lv : Nat) (B : Bk) (dm od om be ke ch tr : Nat → Int32) (U V : Prop) (de vi fa so : Int32) (cx v : Nat) (hc144 : cx < 144) (hv : v < 16) : MR l y_MO_matches b_MO_matches 3 .boolean 0 D cI [.ref (o 0), .int (nI cx), .int (nI v)] [((o 0), .inr (5, [.int (nI cnt), .int (nI (B.1)), .int (nI lv), .ref (o 1), .ref (o 2), .ref (o 3), .ref (o 4), .ref (o 5), .ref (o 6), .ref (o 7), .ref (o 8), .int (bP (U)), .int (bP (V)), .int de, .int vi, .int fa, .int so, .ref (o 9), .ref (o 10), .ref (o 11), .ref (o 12)])), ((o 1), .inl (cI, 8, .inl dm)), ((o 2), .inl (cI, 16, .inl B.kd)), ((o 3), .inl (cI, 48, .inl B.mb)), ((o 4), .inl (cI, 16, .inl B.nu)), ((o 5), .inl (cI, 4, .inl B.sz)), ((o 6), .inl (cI, 144, .inl B.en)), ((o 7), .inl (cI, 80, .inl od)), ((o 8), .inl (cI, 10, .inl om)), ((o 9), .inl (cI, 8, .inl be)), ((o 10), .inl (cI, 8, .inl ke)), ((o 11), .inl (cI, 9, .inl ch)), ((o 12), .inl (cI, 9, .inl tr))] (bP (mat (B.en cx) v)) := by
  refine MI.of (by decide) (Nat.le_of_ble_eq_true rfl) ?_
  intro zp ze zs zm zb zt zc ls A X hrt hlk G hl
  have hx := X.1
  have hb := X.2.1
  have hl : lv_has ls 3 [(0, .ref (o 0)), (1, .int (nI cx)), (2, .int (nI v))] := hl
  refine lv_aload_n hx hb d_MO_matches_0 rfl (lv_at hl 0 rfl) ?_
  refine gf_MO_25 X G 0 rfl rfl d_MO_matches_1 ?_
  refine lv_iload_n hx hb d_MO_matches_4 rfl (lv_at hl 1 rfl) ?_
  refine z_iald X G 6 rfl cx (rfl) (by omega) (by decide) d_MO_matches_5 ?_
  refine lv_iconst (v := (-1)) hx hb d_MO_matches_6 (by decide) ?_
  refine zi_icmp_eq hx hb d_MO_matches_7 rfl rfl (by decide : ((-1) : Int32).toInt = -1) (fun h7 => ?_) (fun h7 => ?_)
  · skip
    have hz : mat (B.en cx) v := Or.inl (by rw [← Int32.toInt_inj, nI_neg1]; exact h7)
    refine lv_iconst (v := (nI 1)) hx hb d_MO_matches_20 (by decide) ?_
    refine lv_goto hx hb d_MO_matches_21 rfl ?_
    exact z_ret X hrt hlk G (rfl) (⟨bP_1 (hz), rfl⟩) d_MO_matches_25
  · skip
    refine lv_aload_n hx hb d_MO_matches_10 rfl (lv_at hl 0 rfl) ?_
    refine gf_MO_25 X G 0 rfl rfl d_MO_matches_11 ?_
    refine lv_iload_n hx hb d_MO_matches_14 rfl (lv_at hl 1 rfl) ?_
    refine z_iald X G 6 rfl cx (rfl) (by omega) (by decide) d_MO_matches_15 ?_
    refine lv_iload_n hx hb d_MO_matches_16 rfl (lv_at hl 2 rfl) ?_
    refine zi_icmp_ne hx hb d_MO_matches_17 rfl rfl (nI_toInt (by omega) : (nI v).toInt = ((v : Nat) : Int)) (fun h17 => ?_) (fun h17 => ?_)
    · skip
      have hz : ¬ mat (B.en cx) v := by
        rintro (h9 | h9)
        · exact h7 (by rw [h9, nI_neg1])
        · exact h17 (by rw [h9, nI_toInt (by omega)])
      refine lv_iconst (v := (nI 0)) hx hb d_MO_matches_24 (by decide) ?_
      exact z_ret X hrt hlk G (rfl) (⟨bP_0 (hz), rfl⟩) d_MO_matches_25
    · skip
      have hz : mat (B.en cx) v := Or.inr (t_nat h17 (by omega))
      refine lv_iconst (v := (nI 1)) hx hb d_MO_matches_20 (by decide) ?_
      refine lv_goto hx hb d_MO_matches_21 rfl ?_
      exact z_ret X hrt hlk G (rfl) (⟨bP_1 (hz), rfl⟩) d_MO_matches_25
set_option maxHeartbeats 4000000 in
set_option maxRecDepth 100000 in
theorem m_met (l : Launch) (D : va_G) (cI : ClassId) (o : Nat → Nat) (cnt lv : Nat) (B : Bk) (dm od om be ke ch tr : Nat → Int32) (U V : Prop) (de vi fa so : Int32) (hB : BOk cnt B) (k i j ll : Nat) (hkn : k < B.1) (hi : i < 16) (hj : j < 16) (hl16 : ll < 16) : MR l y_MO_met b_MO_met 8 .boolean 1 D cI [.ref (o 0), .int (nI k), .int (nI i), .int (nI j), .int (nI ll)] [((o 0), .inr (5, [.int (nI cnt), .int (nI (B.1)), .int (nI lv), .ref (o 1), .ref (o 2), .ref (o 3), .ref (o 4), .ref (o 5), .ref (o 6), .ref (o 7), .ref (o 8), .int (bP (U)), .int (bP (V)), .int de, .int vi, .int fa, .int so, .ref (o 9), .ref (o 10), .ref (o 11), .ref (o 12)])), ((o 1), .inl (cI, 8, .inl dm)), ((o 2), .inl (cI, 16, .inl B.kd)), ((o 3), .inl (cI, 48, .inl B.mb)), ((o 4), .inl (cI, 16, .inl B.nu)), ((o 5), .inl (cI, 4, .inl B.sz)), ((o 6), .inl (cI, 144, .inl B.en)), ((o 7), .inl (cI, 80, .inl od)), ((o 8), .inl (cI, 10, .inl om)), ((o 9), .inl (cI, 8, .inl be)), ((o 10), .inl (cI, 8, .inl ke)), ((o 11), .inl (cI, 9, .inl ch)), ((o 12), .inl (cI, 9, .inl tr))] (bP (met B k i j ll)) := by
  refine MI.of (by decide) (Nat.le_of_ble_eq_true rfl) ?_
  intro zp ze zs zm zb zt zc ls A X hrt hlk G hl
  have hx := X.1
  have hb := X.2.1
  have hl : lv_has ls 8 [(0, .ref (o 0)), (1, .int (nI k)), (2, .int (nI i)), (3, .int (nI j)), (4, .int (nI ll))] := hl
  have hc8 := hB.1
  have hn16 := hB.2.1
  have ej : (nI j).toInt = j := nI_toInt (by omega)
  have ei : (nI i).toInt = i := nI_toInt (by omega)
  refine lv_aload_n hx hb d_MO_met_0 rfl (lv_at hl 0 rfl) ?_
  refine gf_MO_13 X G 0 rfl rfl d_MO_met_1 ?_
  refine lv_iload_n hx hb d_MO_met_4 rfl (lv_at hl 1 rfl) ?_
  refine z_iald X G 2 rfl k (rfl) (by omega) (by decide) d_MO_met_5 ?_
  refine zi_if_ne hx hb d_MO_met_6 rfl rfl (fun h6 => ?_) (fun h6 => ?_)
  · skip
    refine lv_aload_n hx hb d_MO_met_27 rfl (lv_at hl 0 rfl) ?_
    refine gf_MO_13 X G 0 rfl rfl d_MO_met_28 ?_
    refine lv_iload_n hx hb d_MO_met_31 rfl (lv_at hl 1 rfl) ?_
    refine z_iald X G 2 rfl k (rfl) (by omega) (by decide) d_MO_met_32 ?_
    refine lv_iconst (v := (nI 1)) hx hb d_MO_met_33 (by decide) ?_
    refine zi_icmp_ne hx hb d_MO_met_34 rfl rfl (by decide : (nI 1).toInt = 1) (fun h34 => ?_) (fun h34 => ?_)
    · skip
      refine lv_aload_n hx hb d_MO_met_55 rfl (lv_at hl 0 rfl) ?_
      refine gf_MO_13 X G 0 rfl rfl d_MO_met_56 ?_
      refine lv_iload_n hx hb d_MO_met_59 rfl (lv_at hl 1 rfl) ?_
      refine z_iald X G 2 rfl k (rfl) (by omega) (by decide) d_MO_met_60 ?_
      refine lv_iconst (v := (nI 2)) hx hb d_MO_met_61 (by decide) ?_
      refine zi_icmp_ne hx hb d_MO_met_62 rfl rfl (by decide : (nI 2).toInt = 2) (fun h62 => ?_) (fun h62 => ?_)
      · skip
        obtain ⟨hk3, rr, hr4, hrr⟩ : B.kd k = 3 ∧ ∃ r, r < 4 ∧ B.nu k = nI r := by
          obtain ⟨rx, ry, rz, _, _, _, _, _, hru⟩ := hB.2.2.1 k hkn
          rcases hru with h9 | h9 | h9 | h9
          · exact absurd (by rw [h9.1]; rfl) h6
          · exact absurd (by rw [h9.1]; decide) h34
          · exact absurd (by rw [h9.1]; decide) h62
          · exact ⟨h9.1, h9.2.2.2.2.2⟩
        have hls := hB.ls hr4
        have hm3 : met B k i j ll ↔ lmet B rr i j ll := by rw [met3 hk3, hrr, nI_clamp (by omega)]
        refine lv_bipush (v := (nI 36)) hx hb d_MO_met_86 (by decide) ?_
        refine lv_aload_n hx hb d_MO_met_88 rfl (lv_at hl 0 rfl) ?_
        refine gf_MO_19 X G 0 rfl rfl d_MO_met_89 ?_
        refine lv_iload_n hx hb d_MO_met_92 rfl (lv_at hl 1 rfl) ?_
        refine z_iald X G 4 rfl k (rfl) (by omega) (by decide) d_MO_met_93 ?_
        refine z_top (nI rr) (hrr) ?_
        refine zn_mul hx hb d_MO_met_94 ?_
        refine lv_istore hx hb d_MO_met_95 hl (by decide) rfl (fun ls hl => ?_)
        have hl : lv_has ls 8 [(5, .int (nI (36 * rr))), (0, .ref (o 0)), (1, .int (nI k)), (2, .int (nI i)), (3, .int (nI j)), (4, .int (nI ll))] := hl
        refine lv_iconst (v := (nI 0)) hx hb d_MO_met_97 (by decide) ?_
        refine lv_istore hx hb d_MO_met_98 hl (by decide) rfl (fun ls hl => ?_)
        have hl : lv_has ls 8 [(6, .int (nI 0)), (5, .int (nI (36 * rr))), (0, .ref (o 0)), (1, .int (nI k)), (2, .int (nI i)), (3, .int (nI j)), (4, .int (nI ll))] := hl
        have lp : ∀ (fu : Nat) (ee : Nat) (hee : ee ≤ B.ls rr) (hno : ∀ e, e < ee → ¬ (mat (B.en (36 * rr + 3 * e)) i ∧ mat (B.en (36 * rr + 3 * e + 1)) j ∧ mat (B.en (36 * rr + 3 * e + 2)) ll)) (hfu : B.ls rr - ee < fu) (H : Heap) (locs : List Loc) (ls : Array Slot), Gw D A zs.heap H locs [((o 0), .inr (5, [.int (nI cnt), .int (nI (B.1)), .int (nI lv), .ref (o 1), .ref (o 2), .ref (o 3), .ref (o 4), .ref (o 5), .ref (o 6), .ref (o 7), .ref (o 8), .int (bP (U)), .int (bP (V)), .int de, .int vi, .int fa, .int so, .ref (o 9), .ref (o 10), .ref (o 11), .ref (o 12)])), ((o 1), .inl (cI, 8, .inl dm)), ((o 2), .inl (cI, 16, .inl B.kd)), ((o 3), .inl (cI, 48, .inl B.mb)), ((o 4), .inl (cI, 16, .inl B.nu)), ((o 5), .inl (cI, 4, .inl B.sz)), ((o 6), .inl (cI, 144, .inl B.en)), ((o 7), .inl (cI, 80, .inl od)), ((o 8), .inl (cI, 10, .inl om)), ((o 9), .inl (cI, 8, .inl be)), ((o 10), .inl (cI, 8, .inl ke)), ((o 11), .inl (cI, 9, .inl ch)), ((o 12), .inl (cI, 9, .inl tr))] → lv_has ls 8 [(6, .int (nI ee)), (5, .int (nI (36 * rr))), (0, .ref (o 0)), (1, .int (nI k)), (2, .int (nI i)), (3, .int (nI j)), (4, .int (nI ll))] → W zp l ze (zr 1) zs zm ([.ref (o 0), .int (nI k), .int (nI i), .int (nI j), .int (nI ll)] : List Value).toArray zb zt zc H locs 0 0 (ZI D zb ([.ref (o 0), .int (nI k), .int (nI i), .int (nI j), .int (nI ll)] : List Value) zs A (fun r_ u_ => r_ = (bP (met B k i j ll)) ∧ u_ = [((o 0), .inr (5, [.int (nI cnt), .int (nI (B.1)), .int (nI lv), .ref (o 1), .ref (o 2), .ref (o 3), .ref (o 4), .ref (o 5), .ref (o 6), .ref (o 7), .ref (o 8), .int (bP (U)), .int (bP (V)), .int de, .int vi, .int fa, .int so, .ref (o 9), .ref (o 10), .ref (o 11), .ref (o 12)])), ((o 1), .inl (cI, 8, .inl dm)), ((o 2), .inl (cI, 16, .inl B.kd)), ((o 3), .inl (cI, 48, .inl B.mb)), ((o 4), .inl (cI, 16, .inl B.nu)), ((o 5), .inl (cI, 4, .inl B.sz)), ((o 6), .inl (cI, 144, .inl B.en)), ((o 7), .inl (cI, 80, .inl od)), ((o 8), .inl (cI, 10, .inl om)), ((o 9), .inl (cI, 8, .inl be)), ((o 10), .inl (cI, 8, .inl ke)), ((o 11), .inl (cI, 9, .inl ch)), ((o 12), .inl (cI, 9, .inl tr))])) (F0 zm 100 ls []) := by
          intro fu
          induction fu with
          | zero => intro ee hee hno hfu; exact absurd hfu (Nat.not_lt_zero _)
          | succ fu lp =>
            intro ee hee hno hfu H locs ls G hl
            refine lv_iload hx hb d_MO_met_100 (lv_at hl 0 rfl) ?_
            refine lv_aload_n hx hb d_MO_met_102 rfl (lv_at hl 2 rfl) ?_
            refine gf_MO_22 X G 0 rfl rfl d_MO_met_103 ?_
            refine lv_aload_n hx hb d_MO_met_106 rfl (lv_at hl 2 rfl) ?_
            refine gf_MO_19 X G 0 rfl rfl d_MO_met_107 ?_
            refine lv_iload_n hx hb d_MO_met_110 rfl (lv_at hl 3 rfl) ?_
            refine z_iald X G 4 rfl k (rfl) (by omega) (by decide) d_MO_met_111 ?_
            refine z_top (nI rr) (hrr) ?_
            refine z_iald X G 5 rfl rr (rfl) (by omega) (by decide) d_MO_met_112 ?_
            refine z_top (nI (B.ls rr)) (hls.1) ?_
            refine zi_icmp_ge hx hb d_MO_met_113 rfl (nI_toInt (by omega) : (nI ee).toInt = ((ee : Nat) : Int)) (nI_toInt (by omega) : (nI (B.ls rr)).toInt = ((B.ls rr : Nat) : Int)) (fun h113 => ?_) (fun h113 => ?_)
            · skip
              refine lv_iconst (v := (nI 0)) hx hb d_MO_met_168 (by decide) ?_
              exact z_ret X hrt hlk G (rfl) (⟨bP_0 (fun h9 => by obtain ⟨e9, g1, g2⟩ := hm3.mp h9; exact hno e9 (by omega) g2), rfl⟩) d_MO_met_169
            · skip
              refine lv_iload hx hb d_MO_met_116 (lv_at hl 1 rfl) ?_
              refine lv_iconst (v := (nI 3)) hx hb d_MO_met_118 (by decide) ?_
              refine lv_iload hx hb d_MO_met_119 (lv_at hl 0 rfl) ?_
              refine zn_mul hx hb d_MO_met_121 ?_
              refine zn_add hx hb d_MO_met_122 ?_
              refine lv_istore hx hb d_MO_met_123 hl (by decide) rfl (fun ls hl => ?_)
              have hl : lv_has ls 8 [(7, .int (nI ((36 * rr) + (3 * ee)))), (6, .int (nI ee)), (5, .int (nI (36 * rr))), (0, .ref (o 0)), (1, .int (nI k)), (2, .int (nI i)), (3, .int (nI j)), (4, .int (nI ll))] := hl
              refine lv_aload_n hx hb d_MO_met_125 rfl (lv_at hl 3 rfl) ?_
              refine lv_iload hx hb d_MO_met_126 (lv_at hl 0 rfl) ?_
              refine lv_iload_n hx hb d_MO_met_128 rfl (lv_at hl 5 rfl) ?_
              refine zV_R X G (m_matches l D cI o cnt lv B dm od om be ke ch tr U V de vi fa so ((36 * rr) + (3 * ee)) i (by omega) (by omega)) lk_MO_69 [0, 1, 2, 3, 4, 5, 6, 7, 8, 9, 10, 11, 12] rfl (by decide) 0 rfl rfl ⟨by decide, by decide⟩ ⟨Nat.zero_le _, Nat.zero_le _⟩ hl.1 rfl (Nat.le_of_ble_eq_true rfl) d_MO_met_129 (fun H locs G => ?_)
              refine zb_eq hx hb d_MO_met_132 rfl (fun h132 => ?_) (fun h132 => ?_)
              · skip
                have hz : ¬ (mat (B.en (36 * rr + 3 * ee)) i ∧ mat (B.en (36 * rr + 3 * ee + 1)) j ∧ mat (B.en (36 * rr + 3 * ee + 2)) ll) := fun h9 => h132 h9.1
                refine lv_iinc (v := (nI (ee + 1))) hx hb d_MO_met_162 hl (k := 1) rfl (nI_1 ee) (by decide) rfl (fun ls hl => ?_)
                have hl : lv_has ls 8 [(6, .int (nI (ee + 1))), (7, .int (nI ((36 * rr) + (3 * ee)))), (5, .int (nI (36 * rr))), (0, .ref (o 0)), (1, .int (nI k)), (2, .int (nI i)), (3, .int (nI j)), (4, .int (nI ll))] := hl
                refine lv_goto hx hb d_MO_met_165 rfl ?_
                have hl : lv_has ls 8 [(6, .int (nI (ee + 1))), (5, .int (nI (36 * rr))), (0, .ref (o 0)), (1, .int (nI k)), (2, .int (nI i)), (3, .int (nI j)), (4, .int (nI ll))] := lv_sub hl [0, 2, 3, 4, 5, 6, 7] rfl
                exact lp (ee + 1) (by omega) (by intro a h9; rcases (by omega : a < ee ∨ a = ee) with h8 | h8; exact hno a h8; rw [h8]; exact hz) (by omega) _ _ _ G hl
              · skip
                refine lv_aload_n hx hb d_MO_met_135 rfl (lv_at hl 3 rfl) ?_
                refine lv_iload hx hb d_MO_met_136 (lv_at hl 0 rfl) ?_
                refine lv_iconst (v := (nI 1)) hx hb d_MO_met_138 (by decide) ?_
                refine zn_add hx hb d_MO_met_139 ?_
                refine lv_iload_n hx hb d_MO_met_140 rfl (lv_at hl 6 rfl) ?_
                refine zV_R X G (m_matches l D cI o cnt lv B dm od om be ke ch tr U V de vi fa so (((36 * rr) + (3 * ee)) + 1) j (by omega) (by omega)) lk_MO_69 [0, 1, 2, 3, 4, 5, 6, 7, 8, 9, 10, 11, 12] rfl (by decide) 0 rfl rfl ⟨by decide, by decide⟩ ⟨Nat.zero_le _, Nat.zero_le _⟩ hl.1 rfl (Nat.le_of_ble_eq_true rfl) d_MO_met_141 (fun H locs G => ?_)
                refine zb_eq hx hb d_MO_met_144 rfl (fun h144 => ?_) (fun h144 => ?_)
                · skip
                  have hz : ¬ (mat (B.en (36 * rr + 3 * ee)) i ∧ mat (B.en (36 * rr + 3 * ee + 1)) j ∧ mat (B.en (36 * rr + 3 * ee + 2)) ll) := fun h9 => h144 h9.2.1
                  refine lv_iinc (v := (nI (ee + 1))) hx hb d_MO_met_162 hl (k := 1) rfl (nI_1 ee) (by decide) rfl (fun ls hl => ?_)
                  have hl : lv_has ls 8 [(6, .int (nI (ee + 1))), (7, .int (nI ((36 * rr) + (3 * ee)))), (5, .int (nI (36 * rr))), (0, .ref (o 0)), (1, .int (nI k)), (2, .int (nI i)), (3, .int (nI j)), (4, .int (nI ll))] := hl
                  refine lv_goto hx hb d_MO_met_165 rfl ?_
                  have hl : lv_has ls 8 [(6, .int (nI (ee + 1))), (5, .int (nI (36 * rr))), (0, .ref (o 0)), (1, .int (nI k)), (2, .int (nI i)), (3, .int (nI j)), (4, .int (nI ll))] := lv_sub hl [0, 2, 3, 4, 5, 6, 7] rfl
                  exact lp (ee + 1) (by omega) (by intro a h9; rcases (by omega : a < ee ∨ a = ee) with h8 | h8; exact hno a h8; rw [h8]; exact hz) (by omega) _ _ _ G hl
                · skip
                  refine lv_aload_n hx hb d_MO_met_147 rfl (lv_at hl 3 rfl) ?_
                  refine lv_iload hx hb d_MO_met_148 (lv_at hl 0 rfl) ?_
                  refine lv_iconst (v := (nI 2)) hx hb d_MO_met_150 (by decide) ?_
                  refine zn_add hx hb d_MO_met_151 ?_
                  refine lv_iload hx hb d_MO_met_152 (lv_at hl 7 rfl) ?_
                  refine zV_R X G (m_matches l D cI o cnt lv B dm od om be ke ch tr U V de vi fa so (((36 * rr) + (3 * ee)) + 2) ll (by omega) (by omega)) lk_MO_69 [0, 1, 2, 3, 4, 5, 6, 7, 8, 9, 10, 11, 12] rfl (by decide) 0 rfl rfl ⟨by decide, by decide⟩ ⟨Nat.zero_le _, Nat.zero_le _⟩ hl.1 rfl (Nat.le_of_ble_eq_true rfl) d_MO_met_154 (fun H locs G => ?_)
                  refine zb_eq hx hb d_MO_met_157 rfl (fun h157 => ?_) (fun h157 => ?_)
                  · skip
                    have hz : ¬ (mat (B.en (36 * rr + 3 * ee)) i ∧ mat (B.en (36 * rr + 3 * ee + 1)) j ∧ mat (B.en (36 * rr + 3 * ee + 2)) ll) := fun h9 => h157 h9.2.2
                    refine lv_iinc (v := (nI (ee + 1))) hx hb d_MO_met_162 hl (k := 1) rfl (nI_1 ee) (by decide) rfl (fun ls hl => ?_)
                    have hl : lv_has ls 8 [(6, .int (nI (ee + 1))), (7, .int (nI ((36 * rr) + (3 * ee)))), (5, .int (nI (36 * rr))), (0, .ref (o 0)), (1, .int (nI k)), (2, .int (nI i)), (3, .int (nI j)), (4, .int (nI ll))] := hl
                    refine lv_goto hx hb d_MO_met_165 rfl ?_
                    have hl : lv_has ls 8 [(6, .int (nI (ee + 1))), (5, .int (nI (36 * rr))), (0, .ref (o 0)), (1, .int (nI k)), (2, .int (nI i)), (3, .int (nI j)), (4, .int (nI ll))] := lv_sub hl [0, 2, 3, 4, 5, 6, 7] rfl
                    exact lp (ee + 1) (by omega) (by intro a h9; rcases (by omega : a < ee ∨ a = ee) with h8 | h8; exact hno a h8; rw [h8]; exact hz) (by omega) _ _ _ G hl
                  · skip
                    refine lv_iconst (v := (nI 1)) hx hb d_MO_met_160 (by decide) ?_
                    exact z_ret X hrt hlk G (rfl) (⟨bP_1 (hm3.mpr ⟨ee, by omega, h132, h144, h157⟩), rfl⟩) d_MO_met_161
        have hl : lv_has ls 8 [(6, .int (nI 0)), (5, .int (nI (36 * rr))), (0, .ref (o 0)), (1, .int (nI k)), (2, .int (nI i)), (3, .int (nI j)), (4, .int (nI ll))] := lv_sub hl [0, 1, 2, 3, 4, 5, 6] rfl
        exact lp _ 0 (by omega) (fun a h9 => absurd h9 (Nat.not_lt_zero a)) (Nat.lt_succ_self _) _ _ _ G hl
      · skip
        have hk2 : B.kd k = 2 := t_nat (n := 2) h62 (by decide)
        refine lv_iload_n hx hb d_MO_met_65 rfl (lv_at hl 2 rfl) ?_
        refine lv_iload_n hx hb d_MO_met_66 rfl (lv_at hl 3 rfl) ?_
        refine zn_add hx hb d_MO_met_67 ?_
        refine lv_iload hx hb d_MO_met_68 (lv_at hl 4 rfl) ?_
        refine zn_add hx hb d_MO_met_70 ?_
        refine lv_aload_n hx hb d_MO_met_71 rfl (lv_at hl 0 rfl) ?_
        refine gf_MO_19 X G 0 rfl rfl d_MO_met_72 ?_
        refine lv_iload_n hx hb d_MO_met_75 rfl (lv_at hl 1 rfl) ?_
        refine z_iald X G 4 rfl k (rfl) (by omega) (by decide) d_MO_met_76 ?_
        refine zi_icmp_ne hx hb d_MO_met_77 rfl (nI_toInt (by omega) : (nI ((i + j) + ll)).toInt = (((i + j) + ll : Nat) : Int)) rfl (fun h77 => ?_) (fun h77 => ?_)
        · skip
          refine lv_iconst (v := (nI 0)) hx hb d_MO_met_84 (by decide) ?_
          exact z_ret X hrt hlk G (rfl) (⟨bP_0 (by first | exact (met2 hk2).mpr (by omega) | exact fun h9 => by have := (met2 hk2).mp h9; omega), rfl⟩) d_MO_met_85
        · skip
          refine lv_iconst (v := (nI 1)) hx hb d_MO_met_80 (by decide) ?_
          refine lv_goto hx hb d_MO_met_81 rfl ?_
          exact z_ret X hrt hlk G (rfl) (⟨bP_1 (by first | exact (met2 hk2).mpr (by omega) | exact fun h9 => by have := (met2 hk2).mp h9; omega), rfl⟩) d_MO_met_85
    · skip
      have hk1 : B.kd k = 1 := t_nat (n := 1) h34 (by decide)
      have hnu : -15 ≤ (B.nu k).toInt ∧ (B.nu k).toInt ≤ 15 := by
        have h2w : wd B k = 2 := by unfold wd; rw [hk1, if_neg (by decide), if_pos (by decide)]
        exact ⟨(kd_2 hB hkn h2w).2.1, (kd_2 hB hkn h2w).2.2.1⟩
      refine lv_iload_n hx hb d_MO_met_37 rfl (lv_at hl 2 rfl) ?_
      refine lv_iload_n hx hb d_MO_met_38 rfl (lv_at hl 3 rfl) ?_
      refine lv_aload_n hx hb d_MO_met_39 rfl (lv_at hl 0 rfl) ?_
      refine gf_MO_19 X G 0 rfl rfl d_MO_met_40 ?_
      refine lv_iload_n hx hb d_MO_met_43 rfl (lv_at hl 1 rfl) ?_
      refine z_iald X G 4 rfl k (rfl) (by omega) (by decide) d_MO_met_44 ?_
      refine lv_iadd hx hb d_MO_met_45 ?_
      refine z_top (nI j + B.nu k) (rfl) ?_
      refine zi_icmp_lt hx hb d_MO_met_46 rfl (nI_toInt (by omega) : (nI i).toInt = ((i : Nat) : Int)) (show (nI j + B.nu k).toInt = (j : Int) + (B.nu k).toInt by rw [t_add (by omega), ej]) (fun h46 => ?_) (fun h46 => ?_)
      · skip
        refine lv_iconst (v := (nI 0)) hx hb d_MO_met_53 (by decide) ?_
        exact z_ret X hrt hlk G (rfl) (⟨bP_0 (by first | exact (met1 hk1).mpr (by omega) | exact fun h9 => by have := (met1 hk1).mp h9; omega), rfl⟩) d_MO_met_54
      · skip
        refine lv_iconst (v := (nI 1)) hx hb d_MO_met_49 (by decide) ?_
        refine lv_goto hx hb d_MO_met_50 rfl ?_
        exact z_ret X hrt hlk G (rfl) (⟨bP_1 (by first | exact (met1 hk1).mpr (by omega) | exact fun h9 => by have := (met1 hk1).mp h9; omega), rfl⟩) d_MO_met_54
  · skip
    have hk0 : B.kd k = 0 := t_nat (n := 0) h6 (by decide)
    have hnu : -15 ≤ (B.nu k).toInt ∧ (B.nu k).toInt ≤ 15 := by
      have h2w : wd B k = 2 := by unfold wd; rw [hk0, if_pos (show (0 : Int32).toInt = 0 from rfl)]
      exact ⟨(kd_2 hB hkn h2w).2.1, (kd_2 hB hkn h2w).2.2.1⟩
    refine lv_iload_n hx hb d_MO_met_9 rfl (lv_at hl 2 rfl) ?_
    refine lv_iload_n hx hb d_MO_met_10 rfl (lv_at hl 3 rfl) ?_
    refine lv_aload_n hx hb d_MO_met_11 rfl (lv_at hl 0 rfl) ?_
    refine gf_MO_19 X G 0 rfl rfl d_MO_met_12 ?_
    refine lv_iload_n hx hb d_MO_met_15 rfl (lv_at hl 1 rfl) ?_
    refine z_iald X G 4 rfl k (rfl) (by omega) (by decide) d_MO_met_16 ?_
    refine lv_iadd hx hb d_MO_met_17 ?_
    refine z_top (nI j + B.nu k) (rfl) ?_
    refine zi_icmp_eq hx hb d_MO_met_18 rfl (nI_toInt (by omega) : (nI i).toInt = ((i : Nat) : Int)) (show (nI j + B.nu k).toInt = (j : Int) + (B.nu k).toInt by rw [t_add (by omega), ej]) (fun h18 => ?_) (fun h18 => ?_)
    · skip
      refine lv_iconst (v := (nI 0)) hx hb d_MO_met_25 (by decide) ?_
      exact z_ret X hrt hlk G (rfl) (⟨bP_0 (by first | exact (met0 hk0).mpr h18 | exact fun h9 => (met0 hk0).mp h9 h18), rfl⟩) d_MO_met_26
    · skip
      refine lv_iconst (v := (nI 1)) hx hb d_MO_met_21 (by decide) ?_
      refine lv_goto hx hb d_MO_met_22 rfl ?_
      exact z_ret X hrt hlk G (rfl) (⟨bP_1 (by first | exact (met0 hk0).mpr h18 | exact fun h9 => (met0 hk0).mp h9 h18), rfl⟩) d_MO_met_26
set_option maxHeartbeats 4000000 in
set_option maxRecDepth 100000 in
theorem m_may (l : Launch) (D : va_G) (cI : ClassId) (o : Nat → Nat) (cnt lv : Nat) (B : Bk) (dm od om be ke ch tr : Nat → Int32) (U V : Prop) (de vi fa so : Int32) (hB : BOk cnt B) (k qq v t w : Nat) (hkn : k < B.1) (hq3 : qq < 3) (hv : v < 16) (ht : t < 3) (hw16 : w < 16) : MR l y_MO_may b_MO_may 7 .boolean 1 D cI [.ref (o 0), .int (nI k), .int (nI qq), .int (nI v), .int (nI t), .int (nI w)] [((o 0), .inr (5, [.int (nI cnt), .int (nI (B.1)), .int (nI lv), .ref (o 1), .ref (o 2), .ref (o 3), .ref (o 4), .ref (o 5), .ref (o 6), .ref (o 7), .ref (o 8), .int (bP (U)), .int (bP (V)), .int de, .int vi, .int fa, .int so, .ref (o 9), .ref (o 10), .ref (o 11), .ref (o 12)])), ((o 1), .inl (cI, 8, .inl dm)), ((o 2), .inl (cI, 16, .inl B.kd)), ((o 3), .inl (cI, 48, .inl B.mb)), ((o 4), .inl (cI, 16, .inl B.nu)), ((o 5), .inl (cI, 4, .inl B.sz)), ((o 6), .inl (cI, 144, .inl B.en)), ((o 7), .inl (cI, 80, .inl od)), ((o 8), .inl (cI, 10, .inl om)), ((o 9), .inl (cI, 8, .inl be)), ((o 10), .inl (cI, 8, .inl ke)), ((o 11), .inl (cI, 9, .inl ch)), ((o 12), .inl (cI, 9, .inl tr))] (bP (mayB B dm k t w qq v)) := by
  refine MI.of (by decide) (Nat.le_of_ble_eq_true rfl) ?_
  intro zp ze zs zm zb zt zc ls A X hrt hlk G hl
  have hx := X.1
  have hb := X.2.1
  have hl : lv_has ls 7 [(0, .ref (o 0)), (1, .int (nI k)), (2, .int (nI qq)), (3, .int (nI v)), (4, .int (nI t)), (5, .int (nI w))] := hl
  have hc8 := hB.1
  have hn16 := hB.2.1
  refine lv_iload_n hx hb d_MO_may_0 rfl (lv_at hl 2 rfl) ?_
  refine lv_iload hx hb d_MO_may_1 (lv_at hl 4 rfl) ?_
  refine zi_icmp_ne hx hb d_MO_may_3 rfl (nI_toInt (by omega) : (nI qq).toInt = ((qq : Nat) : Int)) (nI_toInt (by omega) : (nI t).toInt = ((t : Nat) : Int)) (fun h3 => ?_) (fun h3 => ?_)
  · skip
    have hqt : qq ≠ t := by omega
    refine lv_aload_n hx hb d_MO_may_18 rfl (lv_at hl 0 rfl) ?_
    refine gf_MO_16 X G 0 rfl rfl d_MO_may_19 ?_
    refine lv_iconst (v := (nI 3)) hx hb d_MO_may_22 (by decide) ?_
    refine lv_iload_n hx hb d_MO_may_23 rfl (lv_at hl 1 rfl) ?_
    refine zn_mul hx hb d_MO_may_24 ?_
    refine lv_iload_n hx hb d_MO_may_25 rfl (lv_at hl 2 rfl) ?_
    refine zn_add hx hb d_MO_may_26 ?_
    refine z_iald X G 3 rfl ((3 * k) + qq) (rfl) (by omega) (by decide) d_MO_may_27 ?_
    refine lv_istore hx hb d_MO_may_28 hl (by decide) rfl (fun ls hl => ?_)
    have hl : lv_has ls 7 [(6, .int (B.mb ((3 * k) + qq))), (0, .ref (o 0)), (1, .int (nI k)), (2, .int (nI qq)), (3, .int (nI v)), (4, .int (nI t)), (5, .int (nI w))] := hl
    refine lv_iload hx hb d_MO_may_30 (lv_at hl 0 rfl) ?_
    refine zi_if_ge hx hb d_MO_may_32 rfl rfl (fun h32 => ?_) (fun h32 => ?_)
    · skip
      have hn0 : ¬ (B.mb (3 * k + qq)).toInt < 0 := by omega
      have hvx := Pl.vx hB ⟨hkn, hq3, hn0⟩
      have hmy := may_pos (D := dm) (w := w) (v := v) hqt hn0
      rw [hvx.2] at hl
      refine lv_aload_n hx hb d_MO_may_47 rfl (lv_at hl 1 rfl) ?_
      refine lv_iload hx hb d_MO_may_48 (lv_at hl 0 rfl) ?_
      refine lv_iload_n hx hb d_MO_may_50 rfl (lv_at hl 4 rfl) ?_
      refine zV_R X G (m_has l D cI o cnt lv B dm od om be ke ch tr U V de vi fa so (B.vx k qq) v (by omega) (by omega)) lk_MO_73 [0, 1, 2, 3, 4, 5, 6, 7, 8, 9, 10, 11, 12] rfl (by decide) 0 rfl rfl ⟨by decide, by decide⟩ ⟨Nat.zero_le _, Nat.zero_le _⟩ hl.1 rfl (Nat.le_of_ble_eq_true rfl) d_MO_may_51 (fun H locs G => ?_)
      exact z_ret X hrt hlk G (bP_n _) (⟨bP_c hmy.symm, rfl⟩) d_MO_may_54
    · skip
      have hmy := may_neg (D := dm) (w := w) (v := v) hqt (show (B.mb (3 * k + qq)).toInt < 0 by omega)
      refine lv_iload_n hx hb d_MO_may_35 rfl (lv_at hl 4 rfl) ?_
      refine zi_if_ne hx hb d_MO_may_36 rfl (nI_toInt (by omega) : (nI v).toInt = ((v : Nat) : Int)) (fun h36 => ?_) (fun h36 => ?_)
      · skip
        refine lv_iconst (v := (nI 0)) hx hb d_MO_may_43 (by decide) ?_
        refine lv_goto hx hb d_MO_may_44 rfl ?_
        exact z_ret X hrt hlk G (rfl) (⟨bP_0 (fun h9 => by have := hmy.mp h9; omega), rfl⟩) d_MO_may_54
      · skip
        refine lv_iconst (v := (nI 1)) hx hb d_MO_may_39 (by decide) ?_
        refine lv_goto hx hb d_MO_may_40 rfl ?_
        exact z_ret X hrt hlk G (rfl) (⟨bP_1 (hmy.mpr (by omega)), rfl⟩) d_MO_may_54
  · skip
    have hqt : qq = t := by omega
    have hqs : mayB B dm k t w qq v ↔ v = w := by rw [hqt]; exact may_self
    refine lv_iload_n hx hb d_MO_may_6 rfl (lv_at hl 3 rfl) ?_
    refine lv_iload hx hb d_MO_may_7 (lv_at hl 5 rfl) ?_
    refine zi_icmp_ne hx hb d_MO_may_9 rfl (nI_toInt (by omega) : (nI v).toInt = ((v : Nat) : Int)) (nI_toInt (by omega) : (nI w).toInt = ((w : Nat) : Int)) (fun h9 => ?_) (fun h9 => ?_)
    · skip
      refine lv_iconst (v := (nI 0)) hx hb d_MO_may_16 (by decide) ?_
      exact z_ret X hrt hlk G (rfl) (⟨bP_0 (by first | exact hqs.mpr (by omega) | exact fun h9 => h9.elim | exact fun h9 => by have := hqs.mp h9; omega), rfl⟩) d_MO_may_17
    · skip
      refine lv_iconst (v := (nI 1)) hx hb d_MO_may_12 (by decide) ?_
      refine lv_goto hx hb d_MO_may_13 rfl ?_
      exact z_ret X hrt hlk G (rfl) (⟨bP_1 (by first | exact hqs.mpr (by omega) | exact fun h9 => h9.elim | exact fun h9 => by have := hqs.mp h9; omega), rfl⟩) d_MO_may_17
