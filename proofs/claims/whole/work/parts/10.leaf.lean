set_option maxHeartbeats 4000000 in
set_option maxRecDepth 100000 in
/-- Integer.bitCount of a set of values -/
theorem c_bitCount (l : Launch) (D : va_G) (cI : ClassId) (x : Int32) (hx16 : lo16 x) : MR l y_IN_bitCount b_IN_bitCount 1 .int 0 D cI [.int x] [] (nI (pcn x)) := by
  refine MI.of (by decide) (Nat.le_of_ble_eq_true rfl) ?_
  intro zp ze zs zm zb zt zc ls A X hrt hlk G hl
  have hx := X.1
  have hb := X.2.1
  have hl : lv_has ls 1 [(0, .int x)] := hl
  refine lv_iload_n hx hb d_IN_bitCount_0 rfl (lv_at hl 0 rfl) ?_
  refine lv_iload_n hx hb d_IN_bitCount_1 rfl (lv_at hl 0 rfl) ?_
  refine lv_iconst (v := (nI 1)) hx hb d_IN_bitCount_2 (by decide) ?_
  refine lv_iushr hx hb d_IN_bitCount_3 rfl ?_
  refine lv_ldcw (v := (nI 1431655765)) hx hb X.2.2.2.1 (X.2.2.2.2.1 _ ct_IN_265) d_IN_bitCount_4 ?_
  refine lv_iand hx hb d_IN_bitCount_7 ?_
  refine lv_isub hx hb d_IN_bitCount_8 ?_
  refine lv_topi (fun y1 e1 => ?_)
  refine lv_istore_n hx hb d_IN_bitCount_9 rfl hl (by decide) rfl (fun ls hl => ?_)
  have hl : lv_has ls 1 [(0, .int y1)] := hl
  refine lv_iload_n hx hb d_IN_bitCount_10 rfl (lv_at hl 0 rfl) ?_
  refine lv_ldcw (v := (nI 858993459)) hx hb X.2.2.2.1 (X.2.2.2.2.1 _ ct_IN_266) d_IN_bitCount_11 ?_
  refine lv_iand hx hb d_IN_bitCount_14 ?_
  refine lv_iload_n hx hb d_IN_bitCount_15 rfl (lv_at hl 0 rfl) ?_
  refine lv_iconst (v := (nI 2)) hx hb d_IN_bitCount_16 (by decide) ?_
  refine lv_iushr hx hb d_IN_bitCount_17 rfl ?_
  refine lv_ldcw (v := (nI 858993459)) hx hb X.2.2.2.1 (X.2.2.2.2.1 _ ct_IN_266) d_IN_bitCount_18 ?_
  refine lv_iand hx hb d_IN_bitCount_21 ?_
  refine lv_iadd hx hb d_IN_bitCount_22 ?_
  refine lv_topi (fun y2 e2 => ?_)
  refine lv_istore_n hx hb d_IN_bitCount_23 rfl hl (by decide) rfl (fun ls hl => ?_)
  have hl : lv_has ls 1 [(0, .int y2)] := hl
  refine lv_iload_n hx hb d_IN_bitCount_24 rfl (lv_at hl 0 rfl) ?_
  refine lv_iload_n hx hb d_IN_bitCount_25 rfl (lv_at hl 0 rfl) ?_
  refine lv_iconst (v := (nI 4)) hx hb d_IN_bitCount_26 (by decide) ?_
  refine lv_iushr hx hb d_IN_bitCount_27 rfl ?_
  refine lv_iadd hx hb d_IN_bitCount_28 ?_
  refine lv_ldcw (v := (nI 252645135)) hx hb X.2.2.2.1 (X.2.2.2.2.1 _ ct_IN_267) d_IN_bitCount_29 ?_
  refine lv_iand hx hb d_IN_bitCount_32 ?_
  refine lv_topi (fun y3 e3 => ?_)
  refine lv_istore_n hx hb d_IN_bitCount_33 rfl hl (by decide) rfl (fun ls hl => ?_)
  have hl : lv_has ls 1 [(0, .int y3)] := hl
  refine lv_iload_n hx hb d_IN_bitCount_34 rfl (lv_at hl 0 rfl) ?_
  refine lv_iload_n hx hb d_IN_bitCount_35 rfl (lv_at hl 0 rfl) ?_
  refine lv_bipush (v := (nI 8)) hx hb d_IN_bitCount_36 (by decide) ?_
  refine lv_iushr hx hb d_IN_bitCount_38 rfl ?_
  refine lv_iadd hx hb d_IN_bitCount_39 ?_
  refine lv_topi (fun y4 e4 => ?_)
  refine lv_istore_n hx hb d_IN_bitCount_40 rfl hl (by decide) rfl (fun ls hl => ?_)
  have hl : lv_has ls 1 [(0, .int y4)] := hl
  refine lv_iload_n hx hb d_IN_bitCount_41 rfl (lv_at hl 0 rfl) ?_
  refine lv_iload_n hx hb d_IN_bitCount_42 rfl (lv_at hl 0 rfl) ?_
  refine lv_bipush (v := (nI 16)) hx hb d_IN_bitCount_43 (by decide) ?_
  refine lv_iushr hx hb d_IN_bitCount_45 rfl ?_
  refine lv_iadd hx hb d_IN_bitCount_46 ?_
  refine lv_topi (fun y5 e5 => ?_)
  refine lv_istore_n hx hb d_IN_bitCount_47 rfl hl (by decide) rfl (fun ls hl => ?_)
  have hl : lv_has ls 1 [(0, .int y5)] := hl
  refine lv_iload_n hx hb d_IN_bitCount_48 rfl (lv_at hl 0 rfl) ?_
  refine lv_bipush (v := (nI 63)) hx hb d_IN_bitCount_49 (by decide) ?_
  refine lv_iand hx hb d_IN_bitCount_51 ?_
  exact z_ret X hrt hlk G (rfl) (⟨by subst e5; subst e4; subst e3; subst e2; subst e1; exact bc_ok hx16, rfl⟩) d_IN_bitCount_52
set_option maxHeartbeats 4000000 in
set_option maxRecDepth 100000 in
/-- has(domain, v) -/
theorem c_has (l : Launch) (D : va_G) (cI : ClassId) (d v : Int32) : MR l y_TD_has b_TD_has 2 .boolean 0 D cI [.int d, .int v] [] (bP (hasP d v)) := by
  refine MI.of (by decide) (Nat.le_of_ble_eq_true rfl) ?_
  intro zp ze zs zm zb zt zc ls A X hrt hlk G hl
  have hx := X.1
  have hb := X.2.1
  have hl : lv_has ls 2 [(0, .int d), (1, .int v)] := hl
  refine lv_iload_n hx hb d_TD_has_0 rfl (lv_at hl 1 rfl) ?_
  refine zi_if_lt hx hb d_TD_has_1 rfl rfl (fun h1 => ?_) (fun h1 => ?_)
  · skip
    have hz : ¬ hasP d v := by
      rintro ⟨n, hn, e, _⟩
      rw [e, nI_toInt (by omega)] at h1; omega
    refine lv_iconst (v := (nI 0)) hx hb d_TD_has_23 (by decide) ?_
    exact z_ret X hrt hlk G (rfl) (⟨bP_0 (hz), rfl⟩) d_TD_has_24
  · skip
    refine lv_iload_n hx hb d_TD_has_4 rfl (lv_at hl 1 rfl) ?_
    refine lv_bipush (v := (nI 16)) hx hb d_TD_has_5 (by decide) ?_
    refine zi_icmp_ge hx hb d_TD_has_7 rfl rfl (by decide : (nI 16).toInt = 16) (fun h7 => ?_) (fun h7 => ?_)
    · skip
      have hz : ¬ hasP d v := by
        rintro ⟨n, hn, e, _⟩
        rw [e, nI_toInt (by omega)] at h7; omega
      refine lv_iconst (v := (nI 0)) hx hb d_TD_has_23 (by decide) ?_
      exact z_ret X hrt hlk G (rfl) (⟨bP_0 (hz), rfl⟩) d_TD_has_24
    · skip
      obtain ⟨n, hn, hv⟩ := nI_ex (k := 16) (by omega) h7 (by decide)
      refine lv_iload_n hx hb d_TD_has_10 rfl (lv_at hl 0 rfl) ?_
      refine lv_iload_n hx hb d_TD_has_11 rfl (lv_at hl 1 rfl) ?_
      refine lv_ishr hx hb d_TD_has_12 ?_
      refine lv_iconst (v := (nI 1)) hx hb d_TD_has_13 (by decide) ?_
      refine lv_iand hx hb d_TD_has_14 ?_
      refine z_top (bP (bt d n = true)) (by rw [hv]; exact bit1P d (by omega)) ?_
      refine lv_iconst (v := (nI 1)) hx hb d_TD_has_15 (by decide) ?_
      refine zb_i1_ne hx hb d_TD_has_16 rfl (fun h16 => ?_) (fun h16 => ?_)
      · skip
        have hz : ¬ hasP d v := by
          rw [hv, hasP_n hn]; exact h16
        refine lv_iconst (v := (nI 0)) hx hb d_TD_has_23 (by decide) ?_
        exact z_ret X hrt hlk G (rfl) (⟨bP_0 (hz), rfl⟩) d_TD_has_24
      · skip
        have hz : hasP d v := by
          rw [hv, hasP_n hn]; exact h16
        refine lv_iconst (v := (nI 1)) hx hb d_TD_has_19 (by decide) ?_
        refine lv_goto hx hb d_TD_has_20 rfl ?_
        exact z_ret X hrt hlk G (rfl) (⟨bP_1 (hz), rfl⟩) d_TD_has_24
set_option maxHeartbeats 4000000 in
set_option maxRecDepth 100000 in
theorem c_isOpen (l : Launch) (D : va_G) (cI : ClassId) (x : Int32) (hlo : lo16 x) : MR l y_TD_isOpen b_TD_isOpen 1 .boolean 1 D cI [.int x] [] (bP (1 < pcn x)) := by
  refine MI.of (by decide) (Nat.le_of_ble_eq_true rfl) ?_
  intro zp ze zs zm zb zt zc ls A X hrt hlk G hl
  have hx := X.1
  have hb := X.2.1
  have hl : lv_has ls 1 [(0, .int x)] := hl
  have hp16 := pcn_le x
  refine lv_iload_n hx hb d_TD_isOpen_0 rfl (lv_at hl 0 rfl) ?_
  refine zS_R X G (c_bitCount l D cI x (by first | assumption | exact hlo)) lk_TD_162 [] rfl (by decide) ⟨by decide, by decide⟩ ⟨Nat.zero_le _, Nat.zero_le _⟩ hl.1 rfl (Nat.le_of_ble_eq_true rfl) d_TD_isOpen_1 (fun H locs G => ?_)
  refine lv_iconst (v := (nI 1)) hx hb d_TD_isOpen_4 (by decide) ?_
  refine zi_icmp_le hx hb d_TD_isOpen_5 rfl (nI_toInt (by omega) : (nI (pcn x)).toInt = ((pcn x : Nat) : Int)) (by decide : (nI 1).toInt = 1) (fun h5 => ?_) (fun h5 => ?_)
  · skip
    refine lv_iconst (v := (nI 0)) hx hb d_TD_isOpen_12 (by decide) ?_
    exact z_ret X hrt hlk G (rfl) (⟨bP_0 (by omega), rfl⟩) d_TD_isOpen_13
  · skip
    refine lv_iconst (v := (nI 1)) hx hb d_TD_isOpen_8 (by decide) ?_
    refine lv_goto hx hb d_TD_isOpen_9 rfl ?_
    exact z_ret X hrt hlk G (rfl) (⟨bP_1 (by omega), rfl⟩) d_TD_isOpen_13
set_option maxHeartbeats 4000000 in
set_option maxRecDepth 100000 in
theorem c_isVariable (l : Launch) (D : va_G) (cI : ClassId) (q : Nat → Nat) (cnt : Nat) (x : Int32) (hc : cnt ≤ 8) : MR l y_TD_isVariable b_TD_isVariable 2 .boolean 0 D cI [.ref (q 0), .int x] [((q 0), .inr (0, [.ref (q 1), .ref (q 2), .ref (q 3), .ref (q 10), .ref (q 13), .int (nI cnt)]))] (bP (0 ≤ x.toInt ∧ x.toInt < cnt)) := by
  refine MI.of (by decide) (Nat.le_of_ble_eq_true rfl) ?_
  intro zp ze zs zm zb zt zc ls A X hrt hlk G hl
  have hx := X.1
  have hb := X.2.1
  have hl : lv_has ls 2 [(0, .ref (q 0)), (1, .int x)] := hl
  refine lv_iload_n hx hb d_TD_isVariable_0 rfl (lv_at hl 1 rfl) ?_
  refine zi_if_lt hx hb d_TD_isVariable_1 rfl rfl (fun h1 => ?_) (fun h1 => ?_)
  · skip
    refine lv_iconst (v := (nI 0)) hx hb d_TD_isVariable_16 (by decide) ?_
    exact z_ret X hrt hlk G (rfl) (⟨bP_0 (by omega), rfl⟩) d_TD_isVariable_17
  · skip
    refine lv_iload_n hx hb d_TD_isVariable_4 rfl (lv_at hl 1 rfl) ?_
    refine lv_aload_n hx hb d_TD_isVariable_5 rfl (lv_at hl 0 rfl) ?_
    refine gf_TD_37 X G 0 rfl rfl d_TD_isVariable_6 ?_
    refine zi_icmp_ge hx hb d_TD_isVariable_9 rfl rfl (nI_toInt (by omega) : (nI cnt).toInt = ((cnt : Nat) : Int)) (fun h9 => ?_) (fun h9 => ?_)
    · skip
      refine lv_iconst (v := (nI 0)) hx hb d_TD_isVariable_16 (by decide) ?_
      exact z_ret X hrt hlk G (rfl) (⟨bP_0 (by omega), rfl⟩) d_TD_isVariable_17
    · skip
      refine lv_iconst (v := (nI 1)) hx hb d_TD_isVariable_12 (by decide) ?_
      refine lv_goto hx hb d_TD_isVariable_13 rfl ?_
      exact z_ret X hrt hlk G (rfl) (⟨bP_1 (by omega), rfl⟩) d_TD_isVariable_17
set_option maxHeartbeats 4000000 in
set_option maxRecDepth 100000 in
theorem c_isList (l : Launch) (D : va_G) (cI : ClassId) (x : Int32) : MR l y_TD_isList b_TD_isList 1 .boolean 0 D cI [.int x] [] (bP (0 ≤ x.toInt ∧ x.toInt < 4)) := by
  refine MI.of (by decide) (Nat.le_of_ble_eq_true rfl) ?_
  intro zp ze zs zm zb zt zc ls A X hrt hlk G hl
  have hx := X.1
  have hb := X.2.1
  have hl : lv_has ls 1 [(0, .int x)] := hl
  refine lv_iload_n hx hb d_TD_isList_0 rfl (lv_at hl 0 rfl) ?_
  refine zi_if_lt hx hb d_TD_isList_1 rfl rfl (fun h1 => ?_) (fun h1 => ?_)
  · skip
    refine lv_iconst (v := (nI 0)) hx hb d_TD_isList_13 (by decide) ?_
    exact z_ret X hrt hlk G (rfl) (⟨bP_0 (by omega), rfl⟩) d_TD_isList_14
  · skip
    refine lv_iload_n hx hb d_TD_isList_4 rfl (lv_at hl 0 rfl) ?_
    refine lv_iconst (v := (nI 4)) hx hb d_TD_isList_5 (by decide) ?_
    refine zi_icmp_ge hx hb d_TD_isList_6 rfl rfl (by decide : (nI 4).toInt = 4) (fun h6 => ?_) (fun h6 => ?_)
    · skip
      refine lv_iconst (v := (nI 0)) hx hb d_TD_isList_13 (by decide) ?_
      exact z_ret X hrt hlk G (rfl) (⟨bP_0 (by omega), rfl⟩) d_TD_isList_14
    · skip
      refine lv_iconst (v := (nI 1)) hx hb d_TD_isList_9 (by decide) ?_
      refine lv_goto hx hb d_TD_isList_10 rfl ?_
      exact z_ret X hrt hlk G (rfl) (⟨bP_1 (by omega), rfl⟩) d_TD_isList_14
set_option maxHeartbeats 4000000 in
set_option maxRecDepth 100000 in
theorem c_isEntryPlace (l : Launch) (D : va_G) (cI : ClassId) (x : Int32) : MR l y_TD_isEntryPlace b_TD_isEntryPlace 1 .boolean 0 D cI [.int x] [] (bP (-1 ≤ x.toInt ∧ x.toInt < 16)) := by
  refine MI.of (by decide) (Nat.le_of_ble_eq_true rfl) ?_
  intro zp ze zs zm zb zt zc ls A X hrt hlk G hl
  have hx := X.1
  have hb := X.2.1
  have hl : lv_has ls 1 [(0, .int x)] := hl
  refine lv_iload_n hx hb d_TD_isEntryPlace_0 rfl (lv_at hl 0 rfl) ?_
  refine lv_iconst (v := (-1)) hx hb d_TD_isEntryPlace_1 (by decide) ?_
  refine zi_icmp_lt hx hb d_TD_isEntryPlace_2 rfl rfl (by decide : ((-1) : Int32).toInt = -1) (fun h2 => ?_) (fun h2 => ?_)
  · skip
    refine lv_iconst (v := (nI 0)) hx hb d_TD_isEntryPlace_15 (by decide) ?_
    exact z_ret X hrt hlk G (rfl) (⟨bP_0 (by omega), rfl⟩) d_TD_isEntryPlace_16
  · skip
    refine lv_iload_n hx hb d_TD_isEntryPlace_5 rfl (lv_at hl 0 rfl) ?_
    refine lv_bipush (v := (nI 16)) hx hb d_TD_isEntryPlace_6 (by decide) ?_
    refine zi_icmp_ge hx hb d_TD_isEntryPlace_8 rfl rfl (by decide : (nI 16).toInt = 16) (fun h8 => ?_) (fun h8 => ?_)
    · skip
      refine lv_iconst (v := (nI 0)) hx hb d_TD_isEntryPlace_15 (by decide) ?_
      exact z_ret X hrt hlk G (rfl) (⟨bP_0 (by omega), rfl⟩) d_TD_isEntryPlace_16
    · skip
      refine lv_iconst (v := (nI 1)) hx hb d_TD_isEntryPlace_11 (by decide) ?_
      refine lv_goto hx hb d_TD_isEntryPlace_12 rfl ?_
      exact z_ret X hrt hlk G (rfl) (⟨bP_1 (by omega), rfl⟩) d_TD_isEntryPlace_16
set_option maxHeartbeats 4000000 in
set_option maxRecDepth 100000 in
theorem c_matchedAt (l : Launch) (D : va_G) (cI : ClassId) (q : Nat → Nat) (B : Bk) (mt : Nat → Int32) (r ee t : Nat) (hr4 : r < 4) (he : ee < 12) (ht : t < 5) : MR l y_LI_matchedAt b_LI_matchedAt 4 .int 0 D cI [.ref (q 4), .int (nI r), .int (nI ee), .int (nI t)] [((q 4), .inr (1, [.ref (q 8), .ref (q 9)])), ((q 8), .inl (cI, 144, .inl mt)), ((q 9), .inl (cI, 4, .inl B.sz))] (mt ((r * 12 + ee) * 3 + t % 3)) := by
  refine MI.of (by decide) (Nat.le_of_ble_eq_true rfl) ?_
  intro zp ze zs zm zb zt zc ls A X hrt hlk G hl
  have hx := X.1
  have hb := X.2.1
  have hl : lv_has ls 4 [(0, .ref (q 4)), (1, .int (nI r)), (2, .int (nI ee)), (3, .int (nI t))] := hl
  refine lv_aload_n hx hb d_LI_matchedAt_0 rfl (lv_at hl 0 rfl) ?_
  refine gf_LI_9 X G 0 rfl rfl d_LI_matchedAt_1 ?_
  refine lv_iload_n hx hb d_LI_matchedAt_4 rfl (lv_at hl 1 rfl) ?_
  refine lv_bipush (v := (nI 12)) hx hb d_LI_matchedAt_5 (by decide) ?_
  refine zn_mul hx hb d_LI_matchedAt_7 ?_
  refine lv_iload_n hx hb d_LI_matchedAt_8 rfl (lv_at hl 2 rfl) ?_
  refine zn_add hx hb d_LI_matchedAt_9 ?_
  refine lv_iconst (v := (nI 3)) hx hb d_LI_matchedAt_10 (by decide) ?_
  refine zn_mul hx hb d_LI_matchedAt_11 ?_
  refine lv_iload_n hx hb d_LI_matchedAt_12 rfl (lv_at hl 3 rfl) ?_
  refine lv_iconst (v := (nI 3)) hx hb d_LI_matchedAt_13 (by decide) ?_
  refine zn_rem hx hb (by omega) (by omega) (by omega) d_LI_matchedAt_14 ?_
  refine zn_add hx hb d_LI_matchedAt_15 ?_
  refine z_iald X G 1 rfl ((((r * 12) + ee) * 3) + (t % 3)) (rfl) (by omega) (by decide) d_LI_matchedAt_16 ?_
  exact z_ret X hrt hlk G (rfl) (⟨by first | rfl | omega, rfl⟩) d_LI_matchedAt_17
set_option maxHeartbeats 4000000 in
set_option maxRecDepth 100000 in
theorem c_isFull (l : Launch) (D : va_G) (cI : ClassId) (q : Nat → Nat) (B : Bk) (mt : Nat → Int32) (r : Nat) (hr4 : r < 4) : MR l y_LI_isFull b_LI_isFull 2 .boolean 0 D cI [.ref (q 4), .int (nI r)] [((q 4), .inr (1, [.ref (q 8), .ref (q 9)])), ((q 8), .inl (cI, 144, .inl mt)), ((q 9), .inl (cI, 4, .inl B.sz))] (bP ((B.sz r).toInt = 12)) := by
  refine MI.of (by decide) (Nat.le_of_ble_eq_true rfl) ?_
  intro zp ze zs zm zb zt zc ls A X hrt hlk G hl
  have hx := X.1
  have hb := X.2.1
  have hl : lv_has ls 2 [(0, .ref (q 4)), (1, .int (nI r))] := hl
  refine lv_aload_n hx hb d_LI_isFull_0 rfl (lv_at hl 0 rfl) ?_
  refine gf_LI_15 X G 0 rfl rfl d_LI_isFull_1 ?_
  refine lv_iload_n hx hb d_LI_isFull_4 rfl (lv_at hl 1 rfl) ?_
  refine z_iald X G 2 rfl r (rfl) (by omega) (by decide) d_LI_isFull_5 ?_
  refine lv_bipush (v := (nI 12)) hx hb d_LI_isFull_6 (by decide) ?_
  refine zi_icmp_ne hx hb d_LI_isFull_8 rfl rfl (by decide : (nI 12).toInt = 12) (fun h8 => ?_) (fun h8 => ?_)
  · skip
    refine lv_iconst (v := (nI 0)) hx hb d_LI_isFull_15 (by decide) ?_
    exact z_ret X hrt hlk G (rfl) (⟨bP_0 (by omega), rfl⟩) d_LI_isFull_16
  · skip
    refine lv_iconst (v := (nI 1)) hx hb d_LI_isFull_11 (by decide) ?_
    refine lv_goto hx hb d_LI_isFull_12 rfl ?_
    exact z_ret X hrt hlk G (rfl) (⟨bP_1 (by omega), rfl⟩) d_LI_isFull_16
set_option maxHeartbeats 4000000 in
set_option maxRecDepth 100000 in
theorem c_matchedBy (l : Launch) (D : va_G) (cI : ClassId) (x : Int32) (h0 : -1 ≤ x.toInt) (h16 : x.toInt < 16) : MI l y_LI_matchedBy b_LI_matchedBy 1 .int 0 D cI [.int x] [] (fun r u => (lo16 r ∧ ∀ v, v < 16 → (bt r v = true ↔ mat x v)) ∧ u = []) := by
  refine MI.of (by decide) (Nat.le_of_ble_eq_true rfl) ?_
  intro zp ze zs zm zb zt zc ls A X hrt hlk G hl
  have hx := X.1
  have hb := X.2.1
  have hl : lv_has ls 1 [(0, .int x)] := hl
  refine lv_iload_n hx hb d_LI_matchedBy_0 rfl (lv_at hl 0 rfl) ?_
  refine lv_iconst (v := (-1)) hx hb d_LI_matchedBy_1 (by decide) ?_
  refine zi_icmp_ne hx hb d_LI_matchedBy_2 rfl rfl (by decide : ((-1) : Int32).toInt = -1) (fun h2 => ?_) (fun h2 => ?_)
  · skip
    obtain ⟨n, hn, hv⟩ := nI_ex (k := 16) (by omega) h16 (by decide)
    refine lv_iconst (v := (nI 1)) hx hb d_LI_matchedBy_10 (by decide) ?_
    refine lv_iload_n hx hb d_LI_matchedBy_11 rfl (lv_at hl 0 rfl) ?_
    refine lv_ishl hx hb d_LI_matchedBy_12 ?_
    exact z_ret X hrt hlk G (rfl) (⟨mby_1 hn hv, rfl⟩) d_LI_matchedBy_13
  · skip
    have hx1 : x = -1 := by rw [← Int32.toInt_inj, nI_neg1]; exact h2
    refine lv_ldc (v := (nI 65535)) hx hb X.2.2.2.1 (X.2.2.2.2.1 _ ct_LI_39) d_LI_matchedBy_5 ?_
    refine lv_goto hx hb d_LI_matchedBy_7 rfl ?_
    exact z_ret X hrt hlk G (rfl) (⟨mby_FF hx1, rfl⟩) d_LI_matchedBy_13
set_option maxHeartbeats 4000000 in
set_option maxRecDepth 100000 in
theorem c_width (l : Launch) (D : va_G) (cI : ClassId) (q : Nat → Nat) (B : Bk) (mt : Nat → Int32) (k : Nat) (hk : k < 16) : MR l y_RB_width b_RB_width 2 .int 0 D cI [.ref (q 3), .int (nI k)] [((q 3), .inr (2, [.ref (q 4), .int (nI (B.1)), .ref (q 5), .ref (q 6), .ref (q 7)])), ((q 4), .inr (1, [.ref (q 8), .ref (q 9)])), ((q 5), .inl (cI, 16, .inl B.kd)), ((q 6), .inl (cI, 48, .inl B.mb)), ((q 7), .inl (cI, 16, .inl B.nu)), ((q 8), .inl (cI, 144, .inl mt)), ((q 9), .inl (cI, 4, .inl B.sz))] (nI (wd B k)) := by
  refine MI.of (by decide) (Nat.le_of_ble_eq_true rfl) ?_
  intro zp ze zs zm zb zt zc ls A X hrt hlk G hl
  have hx := X.1
  have hb := X.2.1
  have hl : lv_has ls 2 [(0, .ref (q 3)), (1, .int (nI k))] := hl
  refine lv_aload_n hx hb d_RB_width_0 rfl (lv_at hl 0 rfl) ?_
  refine gf_RB_22 X G 0 rfl rfl d_RB_width_1 ?_
  refine lv_iload_n hx hb d_RB_width_4 rfl (lv_at hl 1 rfl) ?_
  refine z_iald X G 2 rfl k (rfl) (by omega) (by decide) d_RB_width_5 ?_
  refine zi_if_eq hx hb d_RB_width_6 rfl rfl (fun h6 => ?_) (fun h6 => ?_)
  · skip
    have hz : wd B k = 2 := by unfold wd; rw [if_pos h6]
    refine lv_iconst (v := (nI 2)) hx hb d_RB_width_19 (by decide) ?_
    refine lv_goto hx hb d_RB_width_20 rfl ?_
    exact z_ret X hrt hlk G (rfl) (⟨by rw [hz], rfl⟩) d_RB_width_24
  · skip
    refine lv_aload_n hx hb d_RB_width_9 rfl (lv_at hl 0 rfl) ?_
    refine gf_RB_22 X G 0 rfl rfl d_RB_width_10 ?_
    refine lv_iload_n hx hb d_RB_width_13 rfl (lv_at hl 1 rfl) ?_
    refine z_iald X G 2 rfl k (rfl) (by omega) (by decide) d_RB_width_14 ?_
    refine lv_iconst (v := (nI 1)) hx hb d_RB_width_15 (by decide) ?_
    refine zi_icmp_ne hx hb d_RB_width_16 rfl rfl (by decide : (nI 1).toInt = 1) (fun h16 => ?_) (fun h16 => ?_)
    · skip
      have hz : wd B k = 3 := by unfold wd; rw [if_neg h6, if_neg h16]
      refine lv_iconst (v := (nI 3)) hx hb d_RB_width_23 (by decide) ?_
      exact z_ret X hrt hlk G (rfl) (⟨by rw [hz], rfl⟩) d_RB_width_24
    · skip
      have hz : wd B k = 2 := by unfold wd; rw [if_neg h6, if_pos h16]
      refine lv_iconst (v := (nI 2)) hx hb d_RB_width_19 (by decide) ?_
      refine lv_goto hx hb d_RB_width_20 rfl ?_
      exact z_ret X hrt hlk G (rfl) (⟨by rw [hz], rfl⟩) d_RB_width_24
set_option maxHeartbeats 4000000 in
set_option maxRecDepth 100000 in
theorem c_domainAt (l : Launch) (D : va_G) (cI : ClassId) (q : Nat → Nat) (cnt : Nat) (B : Bk) (mt dm : Nat → Int32) (hB : BOk cnt B) (k t : Nat) (hkn : k < B.1) (ht : t < 5) : MR l y_RB_domainAt b_RB_domainAt 4 .int 1 D cI [.ref (q 3), .int (nI k), .int (nI t), .ref (q 1)] [((q 3), .inr (2, [.ref (q 4), .int (nI (B.1)), .ref (q 5), .ref (q 6), .ref (q 7)])), ((q 4), .inr (1, [.ref (q 8), .ref (q 9)])), ((q 5), .inl (cI, 16, .inl B.kd)), ((q 6), .inl (cI, 48, .inl B.mb)), ((q 7), .inl (cI, 16, .inl B.nu)), ((q 8), .inl (cI, 144, .inl mt)), ((q 9), .inl (cI, 4, .inl B.sz)), ((q 1), .inl (cI, 8, .inl dm))] (dm (B.vx k (t % wd B k))) := by
  refine MI.of (by decide) (Nat.le_of_ble_eq_true rfl) ?_
  intro zp ze zs zm zb zt zc ls A X hrt hlk G hl
  have hx := X.1
  have hb := X.2.1
  have hl : lv_has ls 4 [(0, .ref (q 3)), (1, .int (nI k)), (2, .int (nI t)), (3, .ref (q 1))] := hl
  have hc8 := hB.1
  have hn16 := hB.2.1
  have hw := wd_in B k
  have hm := Nat.mod_lt t (show 0 < wd B k by omega)
  have hvx := mb_vx hB hkn hm
  refine lv_aload_n hx hb d_RB_domainAt_0 rfl (lv_at hl 3 rfl) ?_
  refine lv_aload_n hx hb d_RB_domainAt_1 rfl (lv_at hl 0 rfl) ?_
  refine gf_RB_26 X G 0 rfl rfl d_RB_domainAt_2 ?_
  refine lv_iload_n hx hb d_RB_domainAt_5 rfl (lv_at hl 1 rfl) ?_
  refine lv_iconst (v := (nI 3)) hx hb d_RB_domainAt_6 (by decide) ?_
  refine zn_mul hx hb d_RB_domainAt_7 ?_
  refine lv_iload_n hx hb d_RB_domainAt_8 rfl (lv_at hl 2 rfl) ?_
  refine lv_aload_n hx hb d_RB_domainAt_9 rfl (lv_at hl 0 rfl) ?_
  refine lv_iload_n hx hb d_RB_domainAt_10 rfl (lv_at hl 1 rfl) ?_
  refine zV_R X G (c_width l D cI q B mt k (by omega)) lk_RB_32 [0, 1, 2, 3, 4, 5, 6] rfl (by decide) 0 rfl rfl ⟨by decide, by decide⟩ ⟨Nat.zero_le _, Nat.zero_le _⟩ hl.1 rfl (Nat.le_of_ble_eq_true rfl) d_RB_domainAt_11 (fun H locs G => ?_)
  refine zn_rem hx hb (by omega) (by omega) (by omega) d_RB_domainAt_14 ?_
  refine zn_add hx hb d_RB_domainAt_15 ?_
  refine z_iald X G 3 rfl ((k * 3) + (t % (wd B k))) (rfl) (by omega) (by decide) d_RB_domainAt_16 ?_
  refine z_top (nI (B.vx k (t % wd B k))) (hvx.1) ?_
  refine z_iald X G 7 rfl (B.vx k (t % wd B k)) (rfl) (by omega) (by decide) d_RB_domainAt_17 ?_
  exact z_ret X hrt hlk G (rfl) (⟨rfl, rfl⟩) d_RB_domainAt_18
