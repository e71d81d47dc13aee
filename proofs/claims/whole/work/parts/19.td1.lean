set_option maxHeartbeats 4000000 in
set_option maxRecDepth 100000 in
theorem c_RBappend (l : Launch) (D : va_G) (cI : ClassId) (q : Nat → Nat) (B : Bk) (mt : Nat → Int32) (kk x y z nn : Int32) (hn16 : B.1 < 16) : MI l y_RB_append b_RB_append 6 .int 0 D cI [.ref (q 3), .int kk, .int x, .int y, .int z, .int nn] [((q 3), .inr (2, [.ref (q 4), .int (nI (B.1)), .ref (q 5), .ref (q 6), .ref (q 7)])), ((q 4), .inr (1, [.ref (q 8), .ref (q 9)])), ((q 5), .inl (cI, 16, .inl B.kd)), ((q 6), .inl (cI, 48, .inl B.mb)), ((q 7), .inl (cI, 16, .inl B.nu)), ((q 8), .inl (cI, 144, .inl mt)), ((q 9), .inl (cI, 4, .inl B.sz))] (fun r u => r = nI B.1 ∧ u = [((q 3), .inr (2, [.ref (q 4), .int (nI ((apB B kk x y z nn).1)), .ref (q 5), .ref (q 6), .ref (q 7)])), ((q 4), .inr (1, [.ref (q 8), .ref (q 9)])), ((q 5), .inl (cI, 16, .inl ((apB B kk x y z nn).kd))), ((q 6), .inl (cI, 48, .inl ((apB B kk x y z nn).mb))), ((q 7), .inl (cI, 16, .inl ((apB B kk x y z nn).nu))), ((q 8), .inl (cI, 144, .inl mt)), ((q 9), .inl (cI, 4, .inl ((apB B kk x y z nn).sz)))]) := by
  refine MI.of (by decide) (Nat.le_of_ble_eq_true rfl) ?_
  intro zp ze zs zm zb zt zc ls A X hrt hlk G hl
  have hx := X.1
  have hb := X.2.1
  have hl : lv_has ls 6 [(0, .ref (q 3)), (1, .int kk), (2, .int x), (3, .int y), (4, .int z), (5, .int nn)] := hl
  refine lv_aload_n hx hb d_RB_append_0 rfl (lv_at hl 0 rfl) ?_
  refine gf_RB_22 X G 0 rfl rfl d_RB_append_1 ?_
  refine lv_aload_n hx hb d_RB_append_4 rfl (lv_at hl 0 rfl) ?_
  refine gf_RB_18 X G 0 rfl rfl d_RB_append_5 ?_
  refine lv_iload_n hx hb d_RB_append_8 rfl (lv_at hl 1 rfl) ?_
  refine z_iast X G 2 rfl B.1 (rfl) (by omega) (by decide) d_RB_append_9 (fun H locs G => ?_)
  have G : Gw D A zs.heap H locs [((q 3), .inr (2, [.ref (q 4), .int (nI (B.1)), .ref (q 5), .ref (q 6), .ref (q 7)])), ((q 4), .inr (1, [.ref (q 8), .ref (q 9)])), ((q 5), .inl (cI, 16, .inl (upd B.kd B.1 kk))), ((q 6), .inl (cI, 48, .inl B.mb)), ((q 7), .inl (cI, 16, .inl B.nu)), ((q 8), .inl (cI, 144, .inl mt)), ((q 9), .inl (cI, 4, .inl B.sz))] := G
  refine lv_aload_n hx hb d_RB_append_10 rfl (lv_at hl 0 rfl) ?_
  refine gf_RB_29 X G 0 rfl rfl d_RB_append_11 ?_
  refine lv_aload_n hx hb d_RB_append_14 rfl (lv_at hl 0 rfl) ?_
  refine gf_RB_18 X G 0 rfl rfl d_RB_append_15 ?_
  refine lv_iload hx hb d_RB_append_18 (lv_at hl 5 rfl) ?_
  refine z_iast X G 4 rfl B.1 (rfl) (by omega) (by decide) d_RB_append_20 (fun H locs G => ?_)
  have G : Gw D A zs.heap H locs [((q 3), .inr (2, [.ref (q 4), .int (nI (B.1)), .ref (q 5), .ref (q 6), .ref (q 7)])), ((q 4), .inr (1, [.ref (q 8), .ref (q 9)])), ((q 5), .inl (cI, 16, .inl (upd B.kd B.1 kk))), ((q 6), .inl (cI, 48, .inl B.mb)), ((q 7), .inl (cI, 16, .inl (upd B.nu B.1 nn))), ((q 8), .inl (cI, 144, .inl mt)), ((q 9), .inl (cI, 4, .inl B.sz))] := G
  refine lv_aload_n hx hb d_RB_append_21 rfl (lv_at hl 0 rfl) ?_
  refine gf_RB_26 X G 0 rfl rfl d_RB_append_22 ?_
  refine lv_aload_n hx hb d_RB_append_25 rfl (lv_at hl 0 rfl) ?_
  refine gf_RB_18 X G 0 rfl rfl d_RB_append_26 ?_
  refine lv_iconst (v := (nI 3)) hx hb d_RB_append_29 (by decide) ?_
  refine zn_mul hx hb d_RB_append_30 ?_
  refine lv_iload_n hx hb d_RB_append_31 rfl (lv_at hl 2 rfl) ?_
  refine z_iast X G 3 rfl (B.1 * 3) (rfl) (by omega) (by decide) d_RB_append_32 (fun H locs G => ?_)
  have G : Gw D A zs.heap H locs [((q 3), .inr (2, [.ref (q 4), .int (nI (B.1)), .ref (q 5), .ref (q 6), .ref (q 7)])), ((q 4), .inr (1, [.ref (q 8), .ref (q 9)])), ((q 5), .inl (cI, 16, .inl (upd B.kd B.1 kk))), ((q 6), .inl (cI, 48, .inl (upd B.mb (B.1 * 3) x))), ((q 7), .inl (cI, 16, .inl (upd B.nu B.1 nn))), ((q 8), .inl (cI, 144, .inl mt)), ((q 9), .inl (cI, 4, .inl B.sz))] := G
  refine lv_aload_n hx hb d_RB_append_33 rfl (lv_at hl 0 rfl) ?_
  refine gf_RB_26 X G 0 rfl rfl d_RB_append_34 ?_
  refine lv_aload_n hx hb d_RB_append_37 rfl (lv_at hl 0 rfl) ?_
  refine gf_RB_18 X G 0 rfl rfl d_RB_append_38 ?_
  refine lv_iconst (v := (nI 3)) hx hb d_RB_append_41 (by decide) ?_
  refine zn_mul hx hb d_RB_append_42 ?_
  refine lv_iconst (v := (nI 1)) hx hb d_RB_append_43 (by decide) ?_
  refine zn_add hx hb d_RB_append_44 ?_
  refine lv_iload_n hx hb d_RB_append_45 rfl (lv_at hl 3 rfl) ?_
  refine z_iast X G 3 rfl ((B.1 * 3) + 1) (rfl) (by omega) (by decide) d_RB_append_46 (fun H locs G => ?_)
  have G : Gw D A zs.heap H locs [((q 3), .inr (2, [.ref (q 4), .int (nI (B.1)), .ref (q 5), .ref (q 6), .ref (q 7)])), ((q 4), .inr (1, [.ref (q 8), .ref (q 9)])), ((q 5), .inl (cI, 16, .inl (upd B.kd B.1 kk))), ((q 6), .inl (cI, 48, .inl (upd (upd B.mb (B.1 * 3) x) ((B.1 * 3) + 1) y))), ((q 7), .inl (cI, 16, .inl (upd B.nu B.1 nn))), ((q 8), .inl (cI, 144, .inl mt)), ((q 9), .inl (cI, 4, .inl B.sz))] := G
  refine lv_aload_n hx hb d_RB_append_47 rfl (lv_at hl 0 rfl) ?_
  refine gf_RB_26 X G 0 rfl rfl d_RB_append_48 ?_
  refine lv_aload_n hx hb d_RB_append_51 rfl (lv_at hl 0 rfl) ?_
  refine gf_RB_18 X G 0 rfl rfl d_RB_append_52 ?_
  refine lv_iconst (v := (nI 3)) hx hb d_RB_append_55 (by decide) ?_
  refine zn_mul hx hb d_RB_append_56 ?_
  refine lv_iconst (v := (nI 2)) hx hb d_RB_append_57 (by decide) ?_
  refine zn_add hx hb d_RB_append_58 ?_
  refine lv_iload hx hb d_RB_append_59 (lv_at hl 4 rfl) ?_
  refine z_iast X G 3 rfl ((B.1 * 3) + 2) (rfl) (by omega) (by decide) d_RB_append_61 (fun H locs G => ?_)
  have G : Gw D A zs.heap H locs [((q 3), .inr (2, [.ref (q 4), .int (nI (B.1)), .ref (q 5), .ref (q 6), .ref (q 7)])), ((q 4), .inr (1, [.ref (q 8), .ref (q 9)])), ((q 5), .inl (cI, 16, .inl (upd B.kd B.1 kk))), ((q 6), .inl (cI, 48, .inl (upd (upd (upd B.mb (B.1 * 3) x) ((B.1 * 3) + 1) y) ((B.1 * 3) + 2) z))), ((q 7), .inl (cI, 16, .inl (upd B.nu B.1 nn))), ((q 8), .inl (cI, 144, .inl mt)), ((q 9), .inl (cI, 4, .inl B.sz))] := G
  refine lv_aload_n hx hb d_RB_append_62 rfl (lv_at hl 0 rfl) ?_
  refine lv_dup hx hb d_RB_append_63 rfl ?_
  refine gf_RB_18 X G 0 rfl rfl d_RB_append_64 ?_
  refine lv_iconst (v := (nI 1)) hx hb d_RB_append_67 (by decide) ?_
  refine zn_add hx hb d_RB_append_68 ?_
  refine pf_RB_18 X G 0 rfl (rfl) (rfl) (Nat.le_of_ble_eq_true rfl) d_RB_append_69 (fun H locs G => ?_)
  have G : Gw D A zs.heap H locs [((q 3), .inr (2, [.ref (q 4), .int (nI (B.1 + 1)), .ref (q 5), .ref (q 6), .ref (q 7)])), ((q 4), .inr (1, [.ref (q 8), .ref (q 9)])), ((q 5), .inl (cI, 16, .inl (upd B.kd B.1 kk))), ((q 6), .inl (cI, 48, .inl (upd (upd (upd B.mb (B.1 * 3) x) ((B.1 * 3) + 1) y) ((B.1 * 3) + 2) z))), ((q 7), .inl (cI, 16, .inl (upd B.nu B.1 nn))), ((q 8), .inl (cI, 144, .inl mt)), ((q 9), .inl (cI, 4, .inl B.sz))] := G
  refine lv_aload_n hx hb d_RB_append_72 rfl (lv_at hl 0 rfl) ?_
  refine gf_RB_18 X G 0 rfl rfl d_RB_append_73 ?_
  refine lv_iconst (v := (nI 1)) hx hb d_RB_append_76 (by decide) ?_
  refine zn_sub hx hb (by omega) d_RB_append_77 ?_
  exact z_ret X hrt hlk G (rfl) (⟨by rw [show B.1 + 1 - 1 = B.1 by omega], rfl⟩) d_RB_append_78
set_option maxHeartbeats 4000000 in
set_option maxRecDepth 100000 in
theorem c_LIappend (l : Launch) (D : va_G) (cI : ClassId) (q : Nat → Nat) (B : Bk) (mt : Nat → Int32) (rr : Nat) (a b c : Int32) (hr4 : rr < 4) (hls : B.sz rr = nI (B.ls rr)) (hl12 : B.ls rr < 12) (ha : -1 ≤ a.toInt ∧ a.toInt < 16) (hb3 : -1 ≤ b.toInt ∧ b.toInt < 16) (hc3 : -1 ≤ c.toInt ∧ c.toInt < 16) : MV l y_LI_append b_LI_append 6 1 D cI [.ref (q 4), .int (nI rr), .int a, .int b, .int c] [((q 4), .inr (1, [.ref (q 8), .ref (q 9)])), ((q 8), .inl (cI, 144, .inl mt)), ((q 9), .inl (cI, 4, .inl B.sz))] (fun u => ∃ m1 m2 m3, (lo16 m1 ∧ ∀ v, v < 16 → (bt m1 v = true ↔ mat a v)) ∧ (lo16 m2 ∧ ∀ v, v < 16 → (bt m2 v = true ↔ mat b v)) ∧ (lo16 m3 ∧ ∀ v, v < 16 → (bt m3 v = true ↔ mat c v)) ∧ u = [((q 4), .inr (1, [.ref (q 8), .ref (q 9)])), ((q 8), .inl (cI, 144, .inl (upd (upd (upd mt ((rr * 12 + B.ls rr) * 3) m1) (((rr * 12 + B.ls rr) * 3) + 1) m2) (((rr * 12 + B.ls rr) * 3) + 2) m3))), ((q 9), .inl (cI, 4, .inl (upd B.sz rr (nI (B.ls rr + 1)))))]) := by
  refine MV.of (by decide) (Nat.le_of_ble_eq_true rfl) ?_
  intro zp ze zs zm zb zt zc ls A X hrt hlk G hl
  have hx := X.1
  have hb := X.2.1
  have hl : lv_has ls 6 [(0, .ref (q 4)), (1, .int (nI rr)), (2, .int a), (3, .int b), (4, .int c)] := hl
  refine lv_iload_n hx hb d_LI_append_0 rfl (lv_at hl 1 rfl) ?_
  refine lv_bipush (v := (nI 12)) hx hb d_LI_append_1 (by decide) ?_
  refine zn_mul hx hb d_LI_append_3 ?_
  refine lv_aload_n hx hb d_LI_append_4 rfl (lv_at hl 0 rfl) ?_
  refine gf_LI_15 X G 0 rfl rfl d_LI_append_5 ?_
  refine lv_iload_n hx hb d_LI_append_8 rfl (lv_at hl 1 rfl) ?_
  refine z_iald X G 2 rfl rr (rfl) (by omega) (by decide) d_LI_append_9 ?_
  refine z_top (nI (B.ls rr)) (hls) ?_
  refine zn_add hx hb d_LI_append_10 ?_
  refine lv_iconst (v := (nI 3)) hx hb d_LI_append_11 (by decide) ?_
  refine zn_mul hx hb d_LI_append_12 ?_
  refine lv_istore hx hb d_LI_append_13 hl (by decide) rfl (fun ls hl => ?_)
  have hl : lv_has ls 6 [(5, .int (nI (((rr * 12) + (B.ls rr)) * 3))), (0, .ref (q 4)), (1, .int (nI rr)), (2, .int a), (3, .int b), (4, .int c)] := hl
  refine lv_aload_n hx hb d_LI_append_15 rfl (lv_at hl 1 rfl) ?_
  refine gf_LI_9 X G 0 rfl rfl d_LI_append_16 ?_
  refine lv_iload hx hb d_LI_append_19 (lv_at hl 0 rfl) ?_
  refine lv_iload_n hx hb d_LI_append_21 rfl (lv_at hl 3 rfl) ?_
  refine zS_P X G (c_matchedBy l D cI a (by omega) (by omega)) lk_LI_18 [] rfl (by decide) ⟨by decide, by decide⟩ ⟨Nat.zero_le _, Nat.zero_le _⟩ hl.1 rfl (Nat.le_of_ble_eq_true rfl) d_LI_append_22 (fun r22 H locs q22 G => ?_)
  refine z_iast X G 1 rfl (((rr * 12) + (B.ls rr)) * 3) (rfl) (by omega) (by decide) d_LI_append_25 (fun H locs G => ?_)
  have G : Gw D A zs.heap H locs [((q 4), .inr (1, [.ref (q 8), .ref (q 9)])), ((q 8), .inl (cI, 144, .inl (upd mt (((rr * 12) + (B.ls rr)) * 3) r22))), ((q 9), .inl (cI, 4, .inl B.sz))] := G
  refine lv_aload_n hx hb d_LI_append_26 rfl (lv_at hl 1 rfl) ?_
  refine gf_LI_9 X G 0 rfl rfl d_LI_append_27 ?_
  refine lv_iload hx hb d_LI_append_30 (lv_at hl 0 rfl) ?_
  refine lv_iconst (v := (nI 1)) hx hb d_LI_append_32 (by decide) ?_
  refine zn_add hx hb d_LI_append_33 ?_
  refine lv_iload_n hx hb d_LI_append_34 rfl (lv_at hl 4 rfl) ?_
  refine zS_P X G (c_matchedBy l D cI b (by omega) (by omega)) lk_LI_18 [] rfl (by decide) ⟨by decide, by decide⟩ ⟨Nat.zero_le _, Nat.zero_le _⟩ hl.1 rfl (Nat.le_of_ble_eq_true rfl) d_LI_append_35 (fun r35 H locs q35 G => ?_)
  refine z_iast X G 1 rfl ((((rr * 12) + (B.ls rr)) * 3) + 1) (rfl) (by omega) (by decide) d_LI_append_38 (fun H locs G => ?_)
  have G : Gw D A zs.heap H locs [((q 4), .inr (1, [.ref (q 8), .ref (q 9)])), ((q 8), .inl (cI, 144, .inl (upd (upd mt (((rr * 12) + (B.ls rr)) * 3) r22) ((((rr * 12) + (B.ls rr)) * 3) + 1) r35))), ((q 9), .inl (cI, 4, .inl B.sz))] := G
  refine lv_aload_n hx hb d_LI_append_39 rfl (lv_at hl 1 rfl) ?_
  refine gf_LI_9 X G 0 rfl rfl d_LI_append_40 ?_
  refine lv_iload hx hb d_LI_append_43 (lv_at hl 0 rfl) ?_
  refine lv_iconst (v := (nI 2)) hx hb d_LI_append_45 (by decide) ?_
  refine zn_add hx hb d_LI_append_46 ?_
  refine lv_iload hx hb d_LI_append_47 (lv_at hl 5 rfl) ?_
  refine zS_P X G (c_matchedBy l D cI c (by omega) (by omega)) lk_LI_18 [] rfl (by decide) ⟨by decide, by decide⟩ ⟨Nat.zero_le _, Nat.zero_le _⟩ hl.1 rfl (Nat.le_of_ble_eq_true rfl) d_LI_append_49 (fun r49 H locs q49 G => ?_)
  refine z_iast X G 1 rfl ((((rr * 12) + (B.ls rr)) * 3) + 2) (rfl) (by omega) (by decide) d_LI_append_52 (fun H locs G => ?_)
  have G : Gw D A zs.heap H locs [((q 4), .inr (1, [.ref (q 8), .ref (q 9)])), ((q 8), .inl (cI, 144, .inl (upd (upd (upd mt (((rr * 12) + (B.ls rr)) * 3) r22) ((((rr * 12) + (B.ls rr)) * 3) + 1) r35) ((((rr * 12) + (B.ls rr)) * 3) + 2) r49))), ((q 9), .inl (cI, 4, .inl B.sz))] := G
  refine lv_aload_n hx hb d_LI_append_53 rfl (lv_at hl 1 rfl) ?_
  refine gf_LI_15 X G 0 rfl rfl d_LI_append_54 ?_
  refine lv_iload_n hx hb d_LI_append_57 rfl (lv_at hl 2 rfl) ?_
  refine lv_dup2_11 hx hb d_LI_append_58 rfl rfl ?_
  refine z_iald X G 2 rfl rr (rfl) (by omega) (by decide) d_LI_append_59 ?_
  refine z_top (nI (B.ls rr)) (hls) ?_
  refine lv_iconst (v := (nI 1)) hx hb d_LI_append_60 (by decide) ?_
  refine zn_add hx hb d_LI_append_61 ?_
  refine z_iast X G 2 rfl rr (rfl) (by omega) (by decide) d_LI_append_62 (fun H locs G => ?_)
  have G : Gw D A zs.heap H locs [((q 4), .inr (1, [.ref (q 8), .ref (q 9)])), ((q 8), .inl (cI, 144, .inl (upd (upd (upd mt (((rr * 12) + (B.ls rr)) * 3) r22) ((((rr * 12) + (B.ls rr)) * 3) + 1) r35) ((((rr * 12) + (B.ls rr)) * 3) + 2) r49))), ((q 9), .inl (cI, 4, .inl (upd B.sz rr (nI ((B.ls rr) + 1)))))] := G
  exact z_vret X hrt hlk G (⟨r22, r35, r49, q22, q35, q49, rfl⟩) d_LI_append_63
set_option maxHeartbeats 4000000 in
set_option maxRecDepth 100000 in
theorem c_mayExtend (l : Launch) (D : va_G) (cI : ClassId) (q : Nat → Nat) (cnt lv p : Nat) (B : Bk) (mt dm db od om dr br un : Nat → Int32) (U V : Prop) (vi fa so : Int32) (hc8 : cnt ≤ 8) (hn16 : B.1 ≤ 16) (hlv : lv ≤ 10) : MR l y_TD_mayExtend b_TD_mayExtend 1 .boolean 0 D cI [.ref (q 0)] [((q 0), .inr (0, [.ref (q 1), .ref (q 2), .ref (q 3), .ref (q 10), .ref (q 13), .int (nI cnt)])), ((q 1), .inl (cI, 8, .inl dm)), ((q 2), .inl (cI, 8, .inl db)), ((q 3), .inr (2, [.ref (q 4), .int (nI (B.1)), .ref (q 5), .ref (q 6), .ref (q 7)])), ((q 4), .inr (1, [.ref (q 8), .ref (q 9)])), ((q 5), .inl (cI, 16, .inl B.kd)), ((q 6), .inl (cI, 48, .inl B.mb)), ((q 7), .inl (cI, 16, .inl B.nu)), ((q 8), .inl (cI, 144, .inl mt)), ((q 9), .inl (cI, 4, .inl B.sz)), ((q 10), .inr (3, [.int (nI lv), .ref (q 11), .ref (q 12)])), ((q 11), .inl (cI, 80, .inl od)), ((q 12), .inl (cI, 10, .inl om)), ((q 13), .inr (4, [.int (bP (U)), .int (nI p - 1), .int vi, .int fa, .int so, .ref (q 14), .ref (q 15), .ref (q 16), .int (bP (V))])), ((q 14), .inl (cI, 80, .inl dr)), ((q 15), .inl (cI, 9, .inl br)), ((q 16), .inl (cI, 9, .inl un))] (bP (¬ U ∧ lv = 0)) := by
  refine MI.of (by decide) (Nat.le_of_ble_eq_true rfl) ?_
  intro zp ze zs zm zb zt zc ls A X hrt hlk G hl
  have hx := X.1
  have hb := X.2.1
  have hl : lv_has ls 1 [(0, .ref (q 0))] := hl
  refine lv_aload_n hx hb d_TD_mayExtend_0 rfl (lv_at hl 0 rfl) ?_
  refine gf_TD_33 X G 0 rfl rfl d_TD_mayExtend_1 ?_
  refine gf_TD_82 X G 13 rfl rfl d_TD_mayExtend_4 ?_
  refine zb_ne hx hb d_TD_mayExtend_7 rfl (fun h7 => ?_) (fun h7 => ?_)
  · skip
    refine lv_iconst (v := (nI 0)) hx hb d_TD_mayExtend_24 (by decide) ?_
    exact z_ret X hrt hlk G (rfl) (⟨bP_0 (by first | exact ⟨h7, by omega⟩ | exact fun h9 => h9.1 h7 | exact fun h9 => absurd h9.2 (by omega)), rfl⟩) d_TD_mayExtend_25
  · skip
    refine lv_aload_n hx hb d_TD_mayExtend_10 rfl (lv_at hl 0 rfl) ?_
    refine gf_TD_26 X G 0 rfl rfl d_TD_mayExtend_11 ?_
    refine gf_TD_110 X G 10 rfl rfl d_TD_mayExtend_14 ?_
    refine zi_if_ne hx hb d_TD_mayExtend_17 rfl (nI_toInt (by omega) : (nI lv).toInt = ((lv : Nat) : Int)) (fun h17 => ?_) (fun h17 => ?_)
    · skip
      refine lv_iconst (v := (nI 0)) hx hb d_TD_mayExtend_24 (by decide) ?_
      exact z_ret X hrt hlk G (rfl) (⟨bP_0 (by first | exact ⟨h7, by omega⟩ | exact fun h9 => h9.1 h7 | exact fun h9 => absurd h9.2 (by omega)), rfl⟩) d_TD_mayExtend_25
    · skip
      refine lv_iconst (v := (nI 1)) hx hb d_TD_mayExtend_20 (by decide) ?_
      refine lv_goto hx hb d_TD_mayExtend_21 rfl ?_
      exact z_ret X hrt hlk G (rfl) (⟨bP_1 (by first | exact ⟨h7, by omega⟩ | exact fun h9 => h9.1 h7 | exact fun h9 => absurd h9.2 (by omega)), rfl⟩) d_TD_mayExtend_25
set_option maxHeartbeats 4000000 in
set_option maxRecDepth 100000 in
theorem c_mayMakeRule (l : Launch) (D : va_G) (cI : ClassId) (q : Nat → Nat) (cnt lv p : Nat) (B : Bk) (mt dm db od om dr br un : Nat → Int32) (U V : Prop) (vi fa so : Int32) (hc8 : cnt ≤ 8) (hn16 : B.1 ≤ 16) (hlv : lv ≤ 10) : MR l y_TD_mayMakeRule b_TD_mayMakeRule 1 .boolean 0 D cI [.ref (q 0)] [((q 0), .inr (0, [.ref (q 1), .ref (q 2), .ref (q 3), .ref (q 10), .ref (q 13), .int (nI cnt)])), ((q 1), .inl (cI, 8, .inl dm)), ((q 2), .inl (cI, 8, .inl db)), ((q 3), .inr (2, [.ref (q 4), .int (nI (B.1)), .ref (q 5), .ref (q 6), .ref (q 7)])), ((q 4), .inr (1, [.ref (q 8), .ref (q 9)])), ((q 5), .inl (cI, 16, .inl B.kd)), ((q 6), .inl (cI, 48, .inl B.mb)), ((q 7), .inl (cI, 16, .inl B.nu)), ((q 8), .inl (cI, 144, .inl mt)), ((q 9), .inl (cI, 4, .inl B.sz)), ((q 10), .inr (3, [.int (nI lv), .ref (q 11), .ref (q 12)])), ((q 11), .inl (cI, 80, .inl od)), ((q 12), .inl (cI, 10, .inl om)), ((q 13), .inr (4, [.int (bP (U)), .int (nI p - 1), .int vi, .int fa, .int so, .ref (q 14), .ref (q 15), .ref (q 16), .int (bP (V))])), ((q 14), .inl (cI, 80, .inl dr)), ((q 15), .inl (cI, 9, .inl br)), ((q 16), .inl (cI, 9, .inl un))] (bP (¬ U ∧ B.1 < 16)) := by
  refine MI.of (by decide) (Nat.le_of_ble_eq_true rfl) ?_
  intro zp ze zs zm zb zt zc ls A X hrt hlk G hl
  have hx := X.1
  have hb := X.2.1
  have hl : lv_has ls 1 [(0, .ref (q 0))] := hl
  refine lv_aload_n hx hb d_TD_mayMakeRule_0 rfl (lv_at hl 0 rfl) ?_
  refine gf_TD_33 X G 0 rfl rfl d_TD_mayMakeRule_1 ?_
  refine gf_TD_82 X G 13 rfl rfl d_TD_mayMakeRule_4 ?_
  refine zb_ne hx hb d_TD_mayMakeRule_7 rfl (fun h7 => ?_) (fun h7 => ?_)
  · skip
    refine lv_iconst (v := (nI 0)) hx hb d_TD_mayMakeRule_26 (by decide) ?_
    exact z_ret X hrt hlk G (rfl) (⟨bP_0 (by first | exact ⟨h7, by omega⟩ | exact fun h9 => h9.1 h7 | exact fun h9 => absurd h9.2 (by omega)), rfl⟩) d_TD_mayMakeRule_27
  · skip
    refine lv_aload_n hx hb d_TD_mayMakeRule_10 rfl (lv_at hl 0 rfl) ?_
    refine gf_TD_19 X G 0 rfl rfl d_TD_mayMakeRule_11 ?_
    refine gf_TD_113 X G 3 rfl rfl d_TD_mayMakeRule_14 ?_
    refine lv_bipush (v := (nI 16)) hx hb d_TD_mayMakeRule_17 (by decide) ?_
    refine zi_icmp_ge hx hb d_TD_mayMakeRule_19 rfl (nI_toInt (by omega) : (nI B.1).toInt = ((B.1 : Nat) : Int)) (by decide : (nI 16).toInt = 16) (fun h19 => ?_) (fun h19 => ?_)
    · skip
      refine lv_iconst (v := (nI 0)) hx hb d_TD_mayMakeRule_26 (by decide) ?_
      exact z_ret X hrt hlk G (rfl) (⟨bP_0 (by first | exact ⟨h7, by omega⟩ | exact fun h9 => h9.1 h7 | exact fun h9 => absurd h9.2 (by omega)), rfl⟩) d_TD_mayMakeRule_27
    · skip
      refine lv_iconst (v := (nI 1)) hx hb d_TD_mayMakeRule_22 (by decide) ?_
      refine lv_goto hx hb d_TD_mayMakeRule_23 rfl ?_
      exact z_ret X hrt hlk G (rfl) (⟨bP_1 (by first | exact ⟨h7, by omega⟩ | exact fun h9 => h9.1 h7 | exact fun h9 => absurd h9.2 (by omega)), rfl⟩) d_TD_mayMakeRule_27
set_option maxHeartbeats 4000000 in
set_option maxRecDepth 100000 in
theorem c_mayRelate (l : Launch) (D : va_G) (cI : ClassId) (q : Nat → Nat) (cnt lv p : Nat) (B : Bk) (mt dm db od om dr br un : Nat → Int32) (U V : Prop) (vi fa so : Int32) (x y c3 : Int32) (hc8 : cnt ≤ 8) (hn16 : B.1 ≤ 16) (hlv : lv ≤ 10) : MR l y_TD_mayRelate b_TD_mayRelate 4 .boolean 1 D cI [.ref (q 0), .int x, .int y, .int c3] [((q 0), .inr (0, [.ref (q 1), .ref (q 2), .ref (q 3), .ref (q 10), .ref (q 13), .int (nI cnt)])), ((q 1), .inl (cI, 8, .inl dm)), ((q 2), .inl (cI, 8, .inl db)), ((q 3), .inr (2, [.ref (q 4), .int (nI (B.1)), .ref (q 5), .ref (q 6), .ref (q 7)])), ((q 4), .inr (1, [.ref (q 8), .ref (q 9)])), ((q 5), .inl (cI, 16, .inl B.kd)), ((q 6), .inl (cI, 48, .inl B.mb)), ((q 7), .inl (cI, 16, .inl B.nu)), ((q 8), .inl (cI, 144, .inl mt)), ((q 9), .inl (cI, 4, .inl B.sz)), ((q 10), .inr (3, [.int (nI lv), .ref (q 11), .ref (q 12)])), ((q 11), .inl (cI, 80, .inl od)), ((q 12), .inl (cI, 10, .inl om)), ((q 13), .inr (4, [.int (bP (U)), .int (nI p - 1), .int vi, .int fa, .int so, .ref (q 14), .ref (q 15), .ref (q 16), .int (bP (V))])), ((q 14), .inl (cI, 80, .inl dr)), ((q 15), .inl (cI, 9, .inl br)), ((q 16), .inl (cI, 9, .inl un))] (bP ((¬ U ∧ B.1 < 16) ∧ (0 ≤ x.toInt ∧ x.toInt < cnt) ∧ (0 ≤ y.toInt ∧ y.toInt < cnt) ∧ x.toInt ≠ y.toInt ∧ -15 ≤ c3.toInt ∧ c3.toInt ≤ 15)) := by
  refine MI.of (by decide) (Nat.le_of_ble_eq_true rfl) ?_
  intro zp ze zs zm zb zt zc ls A X hrt hlk G hl
  have hx := X.1
  have hb := X.2.1
  have hl : lv_has ls 4 [(0, .ref (q 0)), (1, .int x), (2, .int y), (3, .int c3)] := hl
  refine lv_aload_n hx hb d_TD_mayRelate_0 rfl (lv_at hl 0 rfl) ?_
  refine zV_R X G (c_mayMakeRule l D cI q cnt lv p B mt dm db od om dr br un U V vi fa so  (by omega) (by omega) (by omega)) lk_TD_76 [0, 1, 2, 3, 4, 5, 6, 7, 8, 9, 10, 11, 12, 13, 14, 15, 16] rfl (by decide) 0 rfl rfl ⟨by decide, by decide⟩ ⟨Nat.zero_le _, Nat.zero_le _⟩ hl.1 rfl (Nat.le_of_ble_eq_true rfl) d_TD_mayRelate_1 (fun H locs G => ?_)
  refine zb_eq hx hb d_TD_mayRelate_4 rfl (fun h4 => ?_) (fun h4 => ?_)
  · skip
    refine lv_iconst (v := (nI 0)) hx hb d_TD_mayRelate_44 (by decide) ?_
    exact z_ret X hrt hlk G (rfl) (⟨bP_0 (by first | exact ⟨h4, h12, h20, h25, by omega, by omega⟩ | exact fun h9 => h4 h9.1 | exact fun h9 => h12 h9.2.1 | exact fun h9 => h20 h9.2.2.1 | exact fun h9 => h9.2.2.2.1 h25 | exact fun h9 => absurd h9.2.2.2.2 (by omega)), rfl⟩) d_TD_mayRelate_45
  · skip
    refine lv_aload_n hx hb d_TD_mayRelate_7 rfl (lv_at hl 0 rfl) ?_
    refine lv_iload_n hx hb d_TD_mayRelate_8 rfl (lv_at hl 1 rfl) ?_
    refine zV_R X G (c_isVariable l D cI q cnt x (by omega)) lk_TD_86 [0] rfl (by decide) 0 rfl rfl ⟨by decide, by decide⟩ ⟨Nat.zero_le _, Nat.zero_le _⟩ hl.1 rfl (Nat.le_of_ble_eq_true rfl) d_TD_mayRelate_9 (fun H locs G => ?_)
    refine zb_eq hx hb d_TD_mayRelate_12 rfl (fun h12 => ?_) (fun h12 => ?_)
    · skip
      refine lv_iconst (v := (nI 0)) hx hb d_TD_mayRelate_44 (by decide) ?_
      exact z_ret X hrt hlk G (rfl) (⟨bP_0 (by first | exact ⟨h4, h12, h20, h25, by omega, by omega⟩ | exact fun h9 => h4 h9.1 | exact fun h9 => h12 h9.2.1 | exact fun h9 => h20 h9.2.2.1 | exact fun h9 => h9.2.2.2.1 h25 | exact fun h9 => absurd h9.2.2.2.2 (by omega)), rfl⟩) d_TD_mayRelate_45
    · skip
      refine lv_aload_n hx hb d_TD_mayRelate_15 rfl (lv_at hl 0 rfl) ?_
      refine lv_iload_n hx hb d_TD_mayRelate_16 rfl (lv_at hl 2 rfl) ?_
      refine zV_R X G (c_isVariable l D cI q cnt y (by omega)) lk_TD_86 [0] rfl (by decide) 0 rfl rfl ⟨by decide, by decide⟩ ⟨Nat.zero_le _, Nat.zero_le _⟩ hl.1 rfl (Nat.le_of_ble_eq_true rfl) d_TD_mayRelate_17 (fun H locs G => ?_)
      refine zb_eq hx hb d_TD_mayRelate_20 rfl (fun h20 => ?_) (fun h20 => ?_)
      · skip
        refine lv_iconst (v := (nI 0)) hx hb d_TD_mayRelate_44 (by decide) ?_
        exact z_ret X hrt hlk G (rfl) (⟨bP_0 (by first | exact ⟨h4, h12, h20, h25, by omega, by omega⟩ | exact fun h9 => h4 h9.1 | exact fun h9 => h12 h9.2.1 | exact fun h9 => h20 h9.2.2.1 | exact fun h9 => h9.2.2.2.1 h25 | exact fun h9 => absurd h9.2.2.2.2 (by omega)), rfl⟩) d_TD_mayRelate_45
      · skip
        refine lv_iload_n hx hb d_TD_mayRelate_23 rfl (lv_at hl 1 rfl) ?_
        refine lv_iload_n hx hb d_TD_mayRelate_24 rfl (lv_at hl 2 rfl) ?_
        refine zi_icmp_eq hx hb d_TD_mayRelate_25 rfl rfl rfl (fun h25 => ?_) (fun h25 => ?_)
        · skip
          refine lv_iconst (v := (nI 0)) hx hb d_TD_mayRelate_44 (by decide) ?_
          exact z_ret X hrt hlk G (rfl) (⟨bP_0 (by first | exact ⟨h4, h12, h20, h25, by omega, by omega⟩ | exact fun h9 => h4 h9.1 | exact fun h9 => h12 h9.2.1 | exact fun h9 => h20 h9.2.2.1 | exact fun h9 => h9.2.2.2.1 h25 | exact fun h9 => absurd h9.2.2.2.2 (by omega)), rfl⟩) d_TD_mayRelate_45
        · skip
          refine lv_iload_n hx hb d_TD_mayRelate_28 rfl (lv_at hl 3 rfl) ?_
          refine lv_bipush (v := (-15)) hx hb d_TD_mayRelate_29 (by decide) ?_
          refine zi_icmp_lt hx hb d_TD_mayRelate_31 rfl rfl (by decide : ((-15) : Int32).toInt = -15) (fun h31 => ?_) (fun h31 => ?_)
          · skip
            refine lv_iconst (v := (nI 0)) hx hb d_TD_mayRelate_44 (by decide) ?_
            exact z_ret X hrt hlk G (rfl) (⟨bP_0 (by first | exact ⟨h4, h12, h20, h25, by omega, by omega⟩ | exact fun h9 => h4 h9.1 | exact fun h9 => h12 h9.2.1 | exact fun h9 => h20 h9.2.2.1 | exact fun h9 => h9.2.2.2.1 h25 | exact fun h9 => absurd h9.2.2.2.2 (by omega)), rfl⟩) d_TD_mayRelate_45
          · skip
            refine lv_iload_n hx hb d_TD_mayRelate_34 rfl (lv_at hl 3 rfl) ?_
            refine lv_bipush (v := (nI 15)) hx hb d_TD_mayRelate_35 (by decide) ?_
            refine zi_icmp_gt hx hb d_TD_mayRelate_37 rfl rfl (by decide : (nI 15).toInt = 15) (fun h37 => ?_) (fun h37 => ?_)
            · skip
              refine lv_iconst (v := (nI 0)) hx hb d_TD_mayRelate_44 (by decide) ?_
              exact z_ret X hrt hlk G (rfl) (⟨bP_0 (by first | exact ⟨h4, h12, h20, h25, by omega, by omega⟩ | exact fun h9 => h4 h9.1 | exact fun h9 => h12 h9.2.1 | exact fun h9 => h20 h9.2.2.1 | exact fun h9 => h9.2.2.2.1 h25 | exact fun h9 => absurd h9.2.2.2.2 (by omega)), rfl⟩) d_TD_mayRelate_45
            · skip
              refine lv_iconst (v := (nI 1)) hx hb d_TD_mayRelate_40 (by decide) ?_
              refine lv_goto hx hb d_TD_mayRelate_41 rfl ?_
              exact z_ret X hrt hlk G (rfl) (⟨bP_1 (by first | exact ⟨h4, h12, h20, h25, by omega, by omega⟩ | exact fun h9 => h4 h9.1 | exact fun h9 => h12 h9.2.1 | exact fun h9 => h20 h9.2.2.1 | exact fun h9 => h9.2.2.2.1 h25 | exact fun h9 => absurd h9.2.2.2.2 (by omega)), rfl⟩) d_TD_mayRelate_45
set_option maxHeartbeats 4000000 in
set_option maxRecDepth 100000 in
theorem c_areThree (l : Launch) (D : va_G) (cI : ClassId) (q : Nat → Nat) (cnt lv p : Nat) (B : Bk) (mt dm db od om dr br un : Nat → Int32) (U V : Prop) (vi fa so : Int32) (x y z : Int32) (hc8 : cnt ≤ 8) (hn16 : B.1 ≤ 16) (hlv : lv ≤ 10) : MR l y_TD_areThreeVariables b_TD_areThreeVariables 4 .boolean 1 D cI [.ref (q 0), .int x, .int y, .int z] [((q 0), .inr (0, [.ref (q 1), .ref (q 2), .ref (q 3), .ref (q 10), .ref (q 13), .int (nI cnt)])), ((q 1), .inl (cI, 8, .inl dm)), ((q 2), .inl (cI, 8, .inl db)), ((q 3), .inr (2, [.ref (q 4), .int (nI (B.1)), .ref (q 5), .ref (q 6), .ref (q 7)])), ((q 4), .inr (1, [.ref (q 8), .ref (q 9)])), ((q 5), .inl (cI, 16, .inl B.kd)), ((q 6), .inl (cI, 48, .inl B.mb)), ((q 7), .inl (cI, 16, .inl B.nu)), ((q 8), .inl (cI, 144, .inl mt)), ((q 9), .inl (cI, 4, .inl B.sz)), ((q 10), .inr (3, [.int (nI lv), .ref (q 11), .ref (q 12)])), ((q 11), .inl (cI, 80, .inl od)), ((q 12), .inl (cI, 10, .inl om)), ((q 13), .inr (4, [.int (bP (U)), .int (nI p - 1), .int vi, .int fa, .int so, .ref (q 14), .ref (q 15), .ref (q 16), .int (bP (V))])), ((q 14), .inl (cI, 80, .inl dr)), ((q 15), .inl (cI, 9, .inl br)), ((q 16), .inl (cI, 9, .inl un))] (bP ((0 ≤ x.toInt ∧ x.toInt < cnt) ∧ (0 ≤ y.toInt ∧ y.toInt < cnt) ∧ (0 ≤ z.toInt ∧ z.toInt < cnt) ∧ x.toInt ≠ y.toInt ∧ y.toInt ≠ z.toInt ∧ x.toInt ≠ z.toInt)) := by
  refine MI.of (by decide) (Nat.le_of_ble_eq_true rfl) ?_
  intro zp ze zs zm zb zt zc ls A X hrt hlk G hl
  have hx := X.1
  have hb := X.2.1
  have hl : lv_has ls 4 [(0, .ref (q 0)), (1, .int x), (2, .int y), (3, .int z)] := hl
  refine lv_aload_n hx hb d_TD_areThreeVariables_0 rfl (lv_at hl 0 rfl) ?_
  refine lv_iload_n hx hb d_TD_areThreeVariables_1 rfl (lv_at hl 1 rfl) ?_
  refine zV_R X G (c_isVariable l D cI q cnt x (by omega)) lk_TD_86 [0] rfl (by decide) 0 rfl rfl ⟨by decide, by decide⟩ ⟨Nat.zero_le _, Nat.zero_le _⟩ hl.1 rfl (Nat.le_of_ble_eq_true rfl) d_TD_areThreeVariables_2 (fun H locs G => ?_)
  refine zb_eq hx hb d_TD_areThreeVariables_5 rfl (fun h5 => ?_) (fun h5 => ?_)
  · skip
    refine lv_iconst (v := (nI 0)) hx hb d_TD_areThreeVariables_43 (by decide) ?_
    exact z_ret X hrt hlk G (rfl) (⟨bP_0 (by first | exact ⟨h5, h13, h21, h26, h31, h36⟩ | exact fun h9 => h5 h9.1 | exact fun h9 => h13 h9.2.1 | exact fun h9 => h21 h9.2.2.1 | exact fun h9 => h9.2.2.2.1 h26 | exact fun h9 => h9.2.2.2.2.1 h31 | exact fun h9 => h9.2.2.2.2.2 h36), rfl⟩) d_TD_areThreeVariables_44
  · skip
    refine lv_aload_n hx hb d_TD_areThreeVariables_8 rfl (lv_at hl 0 rfl) ?_
    refine lv_iload_n hx hb d_TD_areThreeVariables_9 rfl (lv_at hl 2 rfl) ?_
    refine zV_R X G (c_isVariable l D cI q cnt y (by omega)) lk_TD_86 [0] rfl (by decide) 0 rfl rfl ⟨by decide, by decide⟩ ⟨Nat.zero_le _, Nat.zero_le _⟩ hl.1 rfl (Nat.le_of_ble_eq_true rfl) d_TD_areThreeVariables_10 (fun H locs G => ?_)
    refine zb_eq hx hb d_TD_areThreeVariables_13 rfl (fun h13 => ?_) (fun h13 => ?_)
    · skip
      refine lv_iconst (v := (nI 0)) hx hb d_TD_areThreeVariables_43 (by decide) ?_
      exact z_ret X hrt hlk G (rfl) (⟨bP_0 (by first | exact ⟨h5, h13, h21, h26, h31, h36⟩ | exact fun h9 => h5 h9.1 | exact fun h9 => h13 h9.2.1 | exact fun h9 => h21 h9.2.2.1 | exact fun h9 => h9.2.2.2.1 h26 | exact fun h9 => h9.2.2.2.2.1 h31 | exact fun h9 => h9.2.2.2.2.2 h36), rfl⟩) d_TD_areThreeVariables_44
    · skip
      refine lv_aload_n hx hb d_TD_areThreeVariables_16 rfl (lv_at hl 0 rfl) ?_
      refine lv_iload_n hx hb d_TD_areThreeVariables_17 rfl (lv_at hl 3 rfl) ?_
      refine zV_R X G (c_isVariable l D cI q cnt z (by omega)) lk_TD_86 [0] rfl (by decide) 0 rfl rfl ⟨by decide, by decide⟩ ⟨Nat.zero_le _, Nat.zero_le _⟩ hl.1 rfl (Nat.le_of_ble_eq_true rfl) d_TD_areThreeVariables_18 (fun H locs G => ?_)
      refine zb_eq hx hb d_TD_areThreeVariables_21 rfl (fun h21 => ?_) (fun h21 => ?_)
      · skip
        refine lv_iconst (v := (nI 0)) hx hb d_TD_areThreeVariables_43 (by decide) ?_
        exact z_ret X hrt hlk G (rfl) (⟨bP_0 (by first | exact ⟨h5, h13, h21, h26, h31, h36⟩ | exact fun h9 => h5 h9.1 | exact fun h9 => h13 h9.2.1 | exact fun h9 => h21 h9.2.2.1 | exact fun h9 => h9.2.2.2.1 h26 | exact fun h9 => h9.2.2.2.2.1 h31 | exact fun h9 => h9.2.2.2.2.2 h36), rfl⟩) d_TD_areThreeVariables_44
      · skip
        refine lv_iload_n hx hb d_TD_areThreeVariables_24 rfl (lv_at hl 1 rfl) ?_
        refine lv_iload_n hx hb d_TD_areThreeVariables_25 rfl (lv_at hl 2 rfl) ?_
        refine zi_icmp_eq hx hb d_TD_areThreeVariables_26 rfl rfl rfl (fun h26 => ?_) (fun h26 => ?_)
        · skip
          refine lv_iconst (v := (nI 0)) hx hb d_TD_areThreeVariables_43 (by decide) ?_
          exact z_ret X hrt hlk G (rfl) (⟨bP_0 (by first | exact ⟨h5, h13, h21, h26, h31, h36⟩ | exact fun h9 => h5 h9.1 | exact fun h9 => h13 h9.2.1 | exact fun h9 => h21 h9.2.2.1 | exact fun h9 => h9.2.2.2.1 h26 | exact fun h9 => h9.2.2.2.2.1 h31 | exact fun h9 => h9.2.2.2.2.2 h36), rfl⟩) d_TD_areThreeVariables_44
        · skip
          refine lv_iload_n hx hb d_TD_areThreeVariables_29 rfl (lv_at hl 2 rfl) ?_
          refine lv_iload_n hx hb d_TD_areThreeVariables_30 rfl (lv_at hl 3 rfl) ?_
          refine zi_icmp_eq hx hb d_TD_areThreeVariables_31 rfl rfl rfl (fun h31 => ?_) (fun h31 => ?_)
          · skip
            refine lv_iconst (v := (nI 0)) hx hb d_TD_areThreeVariables_43 (by decide) ?_
            exact z_ret X hrt hlk G (rfl) (⟨bP_0 (by first | exact ⟨h5, h13, h21, h26, h31, h36⟩ | exact fun h9 => h5 h9.1 | exact fun h9 => h13 h9.2.1 | exact fun h9 => h21 h9.2.2.1 | exact fun h9 => h9.2.2.2.1 h26 | exact fun h9 => h9.2.2.2.2.1 h31 | exact fun h9 => h9.2.2.2.2.2 h36), rfl⟩) d_TD_areThreeVariables_44
          · skip
            refine lv_iload_n hx hb d_TD_areThreeVariables_34 rfl (lv_at hl 1 rfl) ?_
            refine lv_iload_n hx hb d_TD_areThreeVariables_35 rfl (lv_at hl 3 rfl) ?_
            refine zi_icmp_eq hx hb d_TD_areThreeVariables_36 rfl rfl rfl (fun h36 => ?_) (fun h36 => ?_)
            · skip
              refine lv_iconst (v := (nI 0)) hx hb d_TD_areThreeVariables_43 (by decide) ?_
              exact z_ret X hrt hlk G (rfl) (⟨bP_0 (by first | exact ⟨h5, h13, h21, h26, h31, h36⟩ | exact fun h9 => h5 h9.1 | exact fun h9 => h13 h9.2.1 | exact fun h9 => h21 h9.2.2.1 | exact fun h9 => h9.2.2.2.1 h26 | exact fun h9 => h9.2.2.2.2.1 h31 | exact fun h9 => h9.2.2.2.2.2 h36), rfl⟩) d_TD_areThreeVariables_44
            · skip
              refine lv_iconst (v := (nI 1)) hx hb d_TD_areThreeVariables_39 (by decide) ?_
              refine lv_goto hx hb d_TD_areThreeVariables_40 rfl ?_
              exact z_ret X hrt hlk G (rfl) (⟨bP_1 (by first | exact ⟨h5, h13, h21, h26, h31, h36⟩ | exact fun h9 => h5 h9.1 | exact fun h9 => h13 h9.2.1 | exact fun h9 => h21 h9.2.2.1 | exact fun h9 => h9.2.2.2.1 h26 | exact fun h9 => h9.2.2.2.2.1 h31 | exact fun h9 => h9.2.2.2.2.2 h36), rfl⟩) d_TD_areThreeVariables_44
set_option maxHeartbeats 4000000 in
set_option maxRecDepth 100000 in
theorem c_variable (l : Launch) (D : va_G) (cI : ClassId) (q : Nat → Nat) (cnt lv p : Nat) (B : Bk) (mt dm db od om dr br un : Nat → Int32) (U V : Prop) (vi fa so : Int32) (v : Int32) (hc8 : cnt ≤ 8) (hn16 : B.1 ≤ 16) (hlv : lv ≤ 10) : MI l y_TD_variable b_TD_variable 2 .int 1 D cI [.ref (q 0), .int v] [((q 0), .inr (0, [.ref (q 1), .ref (q 2), .ref (q 3), .ref (q 10), .ref (q 13), .int (nI cnt)])), ((q 1), .inl (cI, 8, .inl dm)), ((q 2), .inl (cI, 8, .inl db)), ((q 3), .inr (2, [.ref (q 4), .int (nI (B.1)), .ref (q 5), .ref (q 6), .ref (q 7)])), ((q 4), .inr (1, [.ref (q 8), .ref (q 9)])), ((q 5), .inl (cI, 16, .inl B.kd)), ((q 6), .inl (cI, 48, .inl B.mb)), ((q 7), .inl (cI, 16, .inl B.nu)), ((q 8), .inl (cI, 144, .inl mt)), ((q 9), .inl (cI, 4, .inl B.sz)), ((q 10), .inr (3, [.int (nI lv), .ref (q 11), .ref (q 12)])), ((q 11), .inl (cI, 80, .inl od)), ((q 12), .inl (cI, 10, .inl om)), ((q 13), .inr (4, [.int (bP (U)), .int (nI p - 1), .int vi, .int fa, .int so, .ref (q 14), .ref (q 15), .ref (q 16), .int (bP (V))])), ((q 14), .inl (cI, 80, .inl dr)), ((q 15), .inl (cI, 9, .inl br)), ((q 16), .inl (cI, 9, .inl un))] (fun r u => (((¬ U ∧ lv = 0) ∧ cnt ≠ 8 ∧ 1 ≤ v.toInt ∧ v.toInt ≤ 65535) ∧ r = nI cnt ∧ u = [((q 0), .inr (0, [.ref (q 1), .ref (q 2), .ref (q 3), .ref (q 10), .ref (q 13), .int (nI (cnt + 1))])), ((q 1), .inl (cI, 8, .inl (upd dm cnt v))), ((q 2), .inl (cI, 8, .inl db)), ((q 3), .inr (2, [.ref (q 4), .int (nI (B.1)), .ref (q 5), .ref (q 6), .ref (q 7)])), ((q 4), .inr (1, [.ref (q 8), .ref (q 9)])), ((q 5), .inl (cI, 16, .inl B.kd)), ((q 6), .inl (cI, 48, .inl B.mb)), ((q 7), .inl (cI, 16, .inl B.nu)), ((q 8), .inl (cI, 144, .inl mt)), ((q 9), .inl (cI, 4, .inl B.sz)), ((q 10), .inr (3, [.int (nI lv), .ref (q 11), .ref (q 12)])), ((q 11), .inl (cI, 80, .inl od)), ((q 12), .inl (cI, 10, .inl om)), ((q 13), .inr (4, [.int (bP (U)), .int (nI p - 1), .int vi, .int fa, .int so, .ref (q 14), .ref (q 15), .ref (q 16), .int (bP (V))])), ((q 14), .inl (cI, 80, .inl dr)), ((q 15), .inl (cI, 9, .inl br)), ((q 16), .inl (cI, 9, .inl un))]) ∨ (¬ ((¬ U ∧ lv = 0) ∧ cnt ≠ 8 ∧ 1 ≤ v.toInt ∧ v.toInt ≤ 65535) ∧ r = -1 ∧ u = [((q 0), .inr (0, [.ref (q 1), .ref (q 2), .ref (q 3), .ref (q 10), .ref (q 13), .int (nI cnt)])), ((q 1), .inl (cI, 8, .inl dm)), ((q 2), .inl (cI, 8, .inl db)), ((q 3), .inr (2, [.ref (q 4), .int (nI (B.1)), .ref (q 5), .ref (q 6), .ref (q 7)])), ((q 4), .inr (1, [.ref (q 8), .ref (q 9)])), ((q 5), .inl (cI, 16, .inl B.kd)), ((q 6), .inl (cI, 48, .inl B.mb)), ((q 7), .inl (cI, 16, .inl B.nu)), ((q 8), .inl (cI, 144, .inl mt)), ((q 9), .inl (cI, 4, .inl B.sz)), ((q 10), .inr (3, [.int (nI lv), .ref (q 11), .ref (q 12)])), ((q 11), .inl (cI, 80, .inl od)), ((q 12), .inl (cI, 10, .inl om)), ((q 13), .inr (4, [.int (bP (U)), .int (nI p - 1), .int vi, .int fa, .int so, .ref (q 14), .ref (q 15), .ref (q 16), .int (bP (V))])), ((q 14), .inl (cI, 80, .inl dr)), ((q 15), .inl (cI, 9, .inl br)), ((q 16), .inl (cI, 9, .inl un))])) := by
  refine MI.of (by decide) (Nat.le_of_ble_eq_true rfl) ?_
  intro zp ze zs zm zb zt zc ls A X hrt hlk G hl
  have hx := X.1
  have hb := X.2.1
  have hl : lv_has ls 2 [(0, .ref (q 0)), (1, .int v)] := hl
  refine lv_aload_n hx hb d_TD_variable_0 rfl (lv_at hl 0 rfl) ?_
  refine zV_R X G (c_mayExtend l D cI q cnt lv p B mt dm db od om dr br un U V vi fa so  (by omega) (by omega) (by omega)) lk_TD_41 [0, 1, 2, 3, 4, 5, 6, 7, 8, 9, 10, 11, 12, 13, 14, 15, 16] rfl (by decide) 0 rfl rfl ⟨by decide, by decide⟩ ⟨Nat.zero_le _, Nat.zero_le _⟩ hl.1 rfl (Nat.le_of_ble_eq_true rfl) d_TD_variable_1 (fun H locs G => ?_)
  refine zb_eq hx hb d_TD_variable_4 rfl (fun h4 => ?_) (fun h4 => ?_)
  · skip
    refine lv_iconst (v := (-1)) hx hb d_TD_variable_27 (by decide) ?_
    exact z_ret X hrt hlk G (rfl) (Or.inr ⟨by first | exact fun h9 => h4 h9.1 | exact fun h9 => absurd h9.2 (by omega), rfl, rfl⟩) d_TD_variable_28
  · skip
    refine lv_aload_n hx hb d_TD_variable_7 rfl (lv_at hl 0 rfl) ?_
    refine gf_TD_37 X G 0 rfl rfl d_TD_variable_8 ?_
    refine lv_bipush (v := (nI 8)) hx hb d_TD_variable_11 (by decide) ?_
    refine zi_icmp_eq hx hb d_TD_variable_13 rfl (nI_toInt (by omega) : (nI cnt).toInt = ((cnt : Nat) : Int)) (by decide : (nI 8).toInt = 8) (fun h13 => ?_) (fun h13 => ?_)
    · skip
      refine lv_iconst (v := (-1)) hx hb d_TD_variable_27 (by decide) ?_
      exact z_ret X hrt hlk G (rfl) (Or.inr ⟨by first | exact fun h9 => h4 h9.1 | exact fun h9 => absurd h9.2 (by omega), rfl, rfl⟩) d_TD_variable_28
    · skip
      refine lv_iload_n hx hb d_TD_variable_16 rfl (lv_at hl 1 rfl) ?_
      refine lv_iconst (v := (nI 1)) hx hb d_TD_variable_17 (by decide) ?_
      refine zi_icmp_lt hx hb d_TD_variable_18 rfl rfl (by decide : (nI 1).toInt = 1) (fun h18 => ?_) (fun h18 => ?_)
      · skip
        refine lv_iconst (v := (-1)) hx hb d_TD_variable_27 (by decide) ?_
        exact z_ret X hrt hlk G (rfl) (Or.inr ⟨by first | exact fun h9 => h4 h9.1 | exact fun h9 => absurd h9.2 (by omega), rfl, rfl⟩) d_TD_variable_28
      · skip
        refine lv_iload_n hx hb d_TD_variable_21 rfl (lv_at hl 1 rfl) ?_
        refine lv_ldc (v := (nI 65535)) hx hb X.2.2.2.1 (X.2.2.2.2.1 _ ct_TD_45) d_TD_variable_22 ?_
        refine zi_icmp_le hx hb d_TD_variable_24 rfl rfl (by decide : (nI 65535).toInt = 65535) (fun h24 => ?_) (fun h24 => ?_)
        · skip
          refine lv_aload_n hx hb d_TD_variable_29 rfl (lv_at hl 0 rfl) ?_
          refine gf_TD_9 X G 0 rfl rfl d_TD_variable_30 ?_
          refine lv_aload_n hx hb d_TD_variable_33 rfl (lv_at hl 0 rfl) ?_
          refine gf_TD_37 X G 0 rfl rfl d_TD_variable_34 ?_
          refine lv_iload_n hx hb d_TD_variable_37 rfl (lv_at hl 1 rfl) ?_
          refine z_iast X G 1 rfl cnt (rfl) (by omega) (by decide) d_TD_variable_38 (fun H locs G => ?_)
          have G : Gw D A zs.heap H locs [((q 0), .inr (0, [.ref (q 1), .ref (q 2), .ref (q 3), .ref (q 10), .ref (q 13), .int (nI cnt)])), ((q 1), .inl (cI, 8, .inl (upd dm cnt v))), ((q 2), .inl (cI, 8, .inl db)), ((q 3), .inr (2, [.ref (q 4), .int (nI (B.1)), .ref (q 5), .ref (q 6), .ref (q 7)])), ((q 4), .inr (1, [.ref (q 8), .ref (q 9)])), ((q 5), .inl (cI, 16, .inl B.kd)), ((q 6), .inl (cI, 48, .inl B.mb)), ((q 7), .inl (cI, 16, .inl B.nu)), ((q 8), .inl (cI, 144, .inl mt)), ((q 9), .inl (cI, 4, .inl B.sz)), ((q 10), .inr (3, [.int (nI lv), .ref (q 11), .ref (q 12)])), ((q 11), .inl (cI, 80, .inl od)), ((q 12), .inl (cI, 10, .inl om)), ((q 13), .inr (4, [.int (bP (U)), .int (nI p - 1), .int vi, .int fa, .int so, .ref (q 14), .ref (q 15), .ref (q 16), .int (bP (V))])), ((q 14), .inl (cI, 80, .inl dr)), ((q 15), .inl (cI, 9, .inl br)), ((q 16), .inl (cI, 9, .inl un))] := G
          refine lv_aload_n hx hb d_TD_variable_39 rfl (lv_at hl 0 rfl) ?_
          refine lv_dup hx hb d_TD_variable_40 rfl ?_
          refine gf_TD_37 X G 0 rfl rfl d_TD_variable_41 ?_
          refine lv_iconst (v := (nI 1)) hx hb d_TD_variable_44 (by decide) ?_
          refine zn_add hx hb d_TD_variable_45 ?_
          refine pf_TD_37 X G 0 rfl (rfl) (rfl) (Nat.le_of_ble_eq_true rfl) d_TD_variable_46 (fun H locs G => ?_)
          have G : Gw D A zs.heap H locs [((q 0), .inr (0, [.ref (q 1), .ref (q 2), .ref (q 3), .ref (q 10), .ref (q 13), .int (nI (cnt + 1))])), ((q 1), .inl (cI, 8, .inl (upd dm cnt v))), ((q 2), .inl (cI, 8, .inl db)), ((q 3), .inr (2, [.ref (q 4), .int (nI (B.1)), .ref (q 5), .ref (q 6), .ref (q 7)])), ((q 4), .inr (1, [.ref (q 8), .ref (q 9)])), ((q 5), .inl (cI, 16, .inl B.kd)), ((q 6), .inl (cI, 48, .inl B.mb)), ((q 7), .inl (cI, 16, .inl B.nu)), ((q 8), .inl (cI, 144, .inl mt)), ((q 9), .inl (cI, 4, .inl B.sz)), ((q 10), .inr (3, [.int (nI lv), .ref (q 11), .ref (q 12)])), ((q 11), .inl (cI, 80, .inl od)), ((q 12), .inl (cI, 10, .inl om)), ((q 13), .inr (4, [.int (bP (U)), .int (nI p - 1), .int vi, .int fa, .int so, .ref (q 14), .ref (q 15), .ref (q 16), .int (bP (V))])), ((q 14), .inl (cI, 80, .inl dr)), ((q 15), .inl (cI, 9, .inl br)), ((q 16), .inl (cI, 9, .inl un))] := G
          refine lv_aload_n hx hb d_TD_variable_49 rfl (lv_at hl 0 rfl) ?_
          refine gf_TD_37 X G 0 rfl rfl d_TD_variable_50 ?_
          refine lv_iconst (v := (nI 1)) hx hb d_TD_variable_53 (by decide) ?_
          refine zn_sub hx hb (by omega) d_TD_variable_54 ?_
          exact z_ret X hrt hlk G (rfl) (Or.inl ⟨⟨h4, by omega, by omega, by omega⟩, by rw [show cnt + 1 - 1 = cnt by omega], rfl⟩) d_TD_variable_55
        · skip
          refine lv_iconst (v := (-1)) hx hb d_TD_variable_27 (by decide) ?_
          exact z_ret X hrt hlk G (rfl) (Or.inr ⟨by first | exact fun h9 => h4 h9.1 | exact fun h9 => absurd h9.2 (by omega), rfl, rfl⟩) d_TD_variable_28
set_option maxHeartbeats 4000000 in
set_option maxRecDepth 100000 in
theorem c_entry (l : Launch) (D : va_G) (cI : ClassId) (q : Nat → Nat) (cnt lv p : Nat) (B : Bk) (mt dm db od om dr br un : Nat → Int32) (U V : Prop) (vi fa so : Int32) (x a b c : Int32) (hB : BOk cnt B) (hM : LOk B mt) (hlv : lv ≤ 10) : MI l y_TD_entry b_TD_entry 5 .boolean 2 D cI [.ref (q 0), .int x, .int a, .int b, .int c] [((q 0), .inr (0, [.ref (q 1), .ref (q 2), .ref (q 3), .ref (q 10), .ref (q 13), .int (nI cnt)])), ((q 1), .inl (cI, 8, .inl dm)), ((q 2), .inl (cI, 8, .inl db)), ((q 3), .inr (2, [.ref (q 4), .int (nI (B.1)), .ref (q 5), .ref (q 6), .ref (q 7)])), ((q 4), .inr (1, [.ref (q 8), .ref (q 9)])), ((q 5), .inl (cI, 16, .inl B.kd)), ((q 6), .inl (cI, 48, .inl B.mb)), ((q 7), .inl (cI, 16, .inl B.nu)), ((q 8), .inl (cI, 144, .inl mt)), ((q 9), .inl (cI, 4, .inl B.sz)), ((q 10), .inr (3, [.int (nI lv), .ref (q 11), .ref (q 12)])), ((q 11), .inl (cI, 80, .inl od)), ((q 12), .inl (cI, 10, .inl om)), ((q 13), .inr (4, [.int (bP (U)), .int (nI p - 1), .int vi, .int fa, .int so, .ref (q 14), .ref (q 15), .ref (q 16), .int (bP (V))])), ((q 14), .inl (cI, 80, .inl dr)), ((q 15), .inl (cI, 9, .inl br)), ((q 16), .inl (cI, 9, .inl un))] (fun r u => (((¬ U ∧ lv = 0) ∧ (∃ rr, rr < 4 ∧ x = nI rr ∧ ¬ (∃ k, k < B.1 ∧ B.kd k = 3 ∧ B.nu k = nI rr) ∧ ¬ (B.sz rr).toInt = 12) ∧ (-1 ≤ a.toInt ∧ a.toInt < 16) ∧ (-1 ≤ b.toInt ∧ b.toInt < 16) ∧ (-1 ≤ c.toInt ∧ c.toInt < 16)) ∧ r = 1 ∧ ∃ rr mt1, rr < 4 ∧ x = nI rr ∧ B.ls rr < 12 ∧ LOk (enB B rr a b c) mt1 ∧ u = [((q 0), .inr (0, [.ref (q 1), .ref (q 2), .ref (q 3), .ref (q 10), .ref (q 13), .int (nI cnt)])), ((q 1), .inl (cI, 8, .inl dm)), ((q 2), .inl (cI, 8, .inl db)), ((q 3), .inr (2, [.ref (q 4), .int (nI ((enB B rr a b c).1)), .ref (q 5), .ref (q 6), .ref (q 7)])), ((q 4), .inr (1, [.ref (q 8), .ref (q 9)])), ((q 5), .inl (cI, 16, .inl ((enB B rr a b c).kd))), ((q 6), .inl (cI, 48, .inl ((enB B rr a b c).mb))), ((q 7), .inl (cI, 16, .inl ((enB B rr a b c).nu))), ((q 8), .inl (cI, 144, .inl mt1)), ((q 9), .inl (cI, 4, .inl ((enB B rr a b c).sz))), ((q 10), .inr (3, [.int (nI lv), .ref (q 11), .ref (q 12)])), ((q 11), .inl (cI, 80, .inl od)), ((q 12), .inl (cI, 10, .inl om)), ((q 13), .inr (4, [.int (bP (U)), .int (nI p - 1), .int vi, .int fa, .int so, .ref (q 14), .ref (q 15), .ref (q 16), .int (bP (V))])), ((q 14), .inl (cI, 80, .inl dr)), ((q 15), .inl (cI, 9, .inl br)), ((q 16), .inl (cI, 9, .inl un))]) ∨ (¬ ((¬ U ∧ lv = 0) ∧ (∃ rr, rr < 4 ∧ x = nI rr ∧ ¬ (∃ k, k < B.1 ∧ B.kd k = 3 ∧ B.nu k = nI rr) ∧ ¬ (B.sz rr).toInt = 12) ∧ (-1 ≤ a.toInt ∧ a.toInt < 16) ∧ (-1 ≤ b.toInt ∧ b.toInt < 16) ∧ (-1 ≤ c.toInt ∧ c.toInt < 16)) ∧ r = 0 ∧ u = [((q 0), .inr (0, [.ref (q 1), .ref (q 2), .ref (q 3), .ref (q 10), .ref (q 13), .int (nI cnt)])), ((q 1), .inl (cI, 8, .inl dm)), ((q 2), .inl (cI, 8, .inl db)), ((q 3), .inr (2, [.ref (q 4), .int (nI (B.1)), .ref (q 5), .ref (q 6), .ref (q 7)])), ((q 4), .inr (1, [.ref (q 8), .ref (q 9)])), ((q 5), .inl (cI, 16, .inl B.kd)), ((q 6), .inl (cI, 48, .inl B.mb)), ((q 7), .inl (cI, 16, .inl B.nu)), ((q 8), .inl (cI, 144, .inl mt)), ((q 9), .inl (cI, 4, .inl B.sz)), ((q 10), .inr (3, [.int (nI lv), .ref (q 11), .ref (q 12)])), ((q 11), .inl (cI, 80, .inl od)), ((q 12), .inl (cI, 10, .inl om)), ((q 13), .inr (4, [.int (bP (U)), .int (nI p - 1), .int vi, .int fa, .int so, .ref (q 14), .ref (q 15), .ref (q 16), .int (bP (V))])), ((q 14), .inl (cI, 80, .inl dr)), ((q 15), .inl (cI, 9, .inl br)), ((q 16), .inl (cI, 9, .inl un))])) := by
  refine MI.of (by decide) (Nat.le_of_ble_eq_true rfl) ?_
  intro zp ze zs zm zb zt zc ls A X hrt hlk G hl
  have hx := X.1
  have hb := X.2.1
  have hl : lv_has ls 5 [(0, .ref (q 0)), (1, .int x), (2, .int a), (3, .int b), (4, .int c)] := hl
  have hc8 := hB.1
  have hn16 := hB.2.1
  refine lv_aload_n hx hb d_TD_entry_0 rfl (lv_at hl 0 rfl) ?_
  refine zV_R X G (c_mayExtend l D cI q cnt lv p B mt dm db od om dr br un U V vi fa so  (by omega) (by omega) (by omega)) lk_TD_41 [0, 1, 2, 3, 4, 5, 6, 7, 8, 9, 10, 11, 12, 13, 14, 15, 16] rfl (by decide) 0 rfl rfl ⟨by decide, by decide⟩ ⟨Nat.zero_le _, Nat.zero_le _⟩ hl.1 rfl (Nat.le_of_ble_eq_true rfl) d_TD_entry_1 (fun H locs G => ?_)
  refine zb_eq hx hb d_TD_entry_4 rfl (fun h4 => ?_) (fun h4 => ?_)
  · skip
    refine lv_iconst (v := (nI 0)) hx hb d_TD_entry_39 (by decide) ?_
    exact z_ret X hrt hlk G (rfl) (Or.inr ⟨by first | exact fun h9 => h4 h9.1 | (rintro ⟨_, ⟨r9, hr9, e9, _⟩, _⟩; exact h11 (by rw [e9, nI_toInt (by omega)]; omega)) | exact fun ⟨_, ⟨r9, hr9, e9, g9, f9⟩, _⟩ => by have e8 : r9 = rr := (nI_eq (by omega) (by omega)).mp (e9.symm.trans hxr); subst e8; first | exact g9 h22 | exact f9 h36, rfl, rfl⟩) d_TD_entry_40
  · skip
    refine lv_iload_n hx hb d_TD_entry_7 rfl (lv_at hl 1 rfl) ?_
    refine zS_R X G (c_isList l D cI x) lk_TD_46 [] rfl (by decide) ⟨by decide, by decide⟩ ⟨Nat.zero_le _, Nat.zero_le _⟩ hl.1 rfl (Nat.le_of_ble_eq_true rfl) d_TD_entry_8 (fun H locs G => ?_)
    refine zb_eq hx hb d_TD_entry_11 rfl (fun h11 => ?_) (fun h11 => ?_)
    · skip
      refine lv_iconst (v := (nI 0)) hx hb d_TD_entry_39 (by decide) ?_
      exact z_ret X hrt hlk G (rfl) (Or.inr ⟨by first | exact fun h9 => h4 h9.1 | (rintro ⟨_, ⟨r9, hr9, e9, _⟩, _⟩; exact h11 (by rw [e9, nI_toInt (by omega)]; omega)) | exact fun ⟨_, ⟨r9, hr9, e9, g9, f9⟩, _⟩ => by have e8 : r9 = rr := (nI_eq (by omega) (by omega)).mp (e9.symm.trans hxr); subst e8; first | exact g9 h22 | exact f9 h36, rfl, rfl⟩) d_TD_entry_40
    · skip
      obtain ⟨rr, hr4, hxr⟩ := nI_ex (k := 4) h11.1 h11.2 (by decide)
      rw [hxr] at hl
      refine lv_aload_n hx hb d_TD_entry_14 rfl (lv_at hl 0 rfl) ?_
      refine gf_TD_19 X G 0 rfl rfl d_TD_entry_15 ?_
      refine lv_iload_n hx hb d_TD_entry_18 rfl (lv_at hl 1 rfl) ?_
      refine zV_R X G (c_hasListed l D cI q cnt B mt hB rr (by omega)) lk_TD_50 [3, 4, 5, 6, 7, 8, 9] rfl (by decide) 0 rfl rfl ⟨by decide, by decide⟩ ⟨Nat.zero_le _, Nat.zero_le _⟩ hl.1 rfl (Nat.le_of_ble_eq_true rfl) d_TD_entry_19 (fun H locs G => ?_)
      refine zb_ne hx hb d_TD_entry_22 rfl (fun h22 => ?_) (fun h22 => ?_)
      · skip
        refine lv_iconst (v := (nI 0)) hx hb d_TD_entry_39 (by decide) ?_
        exact z_ret X hrt hlk G (rfl) (Or.inr ⟨by first | exact fun h9 => h4 h9.1 | (rintro ⟨_, ⟨r9, hr9, e9, _⟩, _⟩; exact h11 (by rw [e9, nI_toInt (by omega)]; omega)) | exact fun ⟨_, ⟨r9, hr9, e9, g9, f9⟩, _⟩ => by have e8 : r9 = rr := (nI_eq (by omega) (by omega)).mp (e9.symm.trans hxr); subst e8; first | exact g9 h22 | exact f9 h36, rfl, rfl⟩) d_TD_entry_40
      · skip
        refine lv_aload_n hx hb d_TD_entry_25 rfl (lv_at hl 0 rfl) ?_
        refine gf_TD_19 X G 0 rfl rfl d_TD_entry_26 ?_
        refine gf_TD_53 X G 3 rfl rfl d_TD_entry_29 ?_
        refine lv_iload_n hx hb d_TD_entry_32 rfl (lv_at hl 1 rfl) ?_
        refine zV_R X G (c_isFull l D cI q B mt rr (by omega)) lk_TD_57 [4, 8, 9] rfl (by decide) 0 rfl rfl ⟨by decide, by decide⟩ ⟨Nat.zero_le _, Nat.zero_le _⟩ hl.1 rfl (Nat.le_of_ble_eq_true rfl) d_TD_entry_33 (fun H locs G => ?_)
        refine zb_eq hx hb d_TD_entry_36 rfl (fun h36 => ?_) (fun h36 => ?_)
        · skip
          have hl12 : B.ls rr < 12 := by have h9 := hB.ls hr4; rw [h9.1, nI_toInt (by omega)] at h36; omega
          refine lv_iload_n hx hb d_TD_entry_41 rfl (lv_at hl 2 rfl) ?_
          refine zS_R X G (c_isEntryPlace l D cI a) lk_TD_62 [] rfl (by decide) ⟨by decide, by decide⟩ ⟨Nat.zero_le _, Nat.zero_le _⟩ hl.1 rfl (Nat.le_of_ble_eq_true rfl) d_TD_entry_42 (fun H locs G => ?_)
          refine zb_eq hx hb d_TD_entry_45 rfl (fun h45 => ?_) (fun h45 => ?_)
          · skip
            refine lv_iconst (v := (nI 0)) hx hb d_TD_entry_63 (by decide) ?_
            exact z_ret X hrt hlk G (rfl) (Or.inr ⟨by first | exact fun h9 => h45 h9.2.2.1 | exact fun h9 => h52 h9.2.2.2.1 | exact fun h9 => h60 h9.2.2.2.2, rfl, rfl⟩) d_TD_entry_64
          · skip
            refine lv_iload_n hx hb d_TD_entry_48 rfl (lv_at hl 3 rfl) ?_
            refine zS_R X G (c_isEntryPlace l D cI b) lk_TD_62 [] rfl (by decide) ⟨by decide, by decide⟩ ⟨Nat.zero_le _, Nat.zero_le _⟩ hl.1 rfl (Nat.le_of_ble_eq_true rfl) d_TD_entry_49 (fun H locs G => ?_)
            refine zb_eq hx hb d_TD_entry_52 rfl (fun h52 => ?_) (fun h52 => ?_)
            · skip
              refine lv_iconst (v := (nI 0)) hx hb d_TD_entry_63 (by decide) ?_
              exact z_ret X hrt hlk G (rfl) (Or.inr ⟨by first | exact fun h9 => h45 h9.2.2.1 | exact fun h9 => h52 h9.2.2.2.1 | exact fun h9 => h60 h9.2.2.2.2, rfl, rfl⟩) d_TD_entry_64
            · skip
              refine lv_iload hx hb d_TD_entry_55 (lv_at hl 4 rfl) ?_
              refine zS_R X G (c_isEntryPlace l D cI c) lk_TD_62 [] rfl (by decide) ⟨by decide, by decide⟩ ⟨Nat.zero_le _, Nat.zero_le _⟩ hl.1 rfl (Nat.le_of_ble_eq_true rfl) d_TD_entry_57 (fun H locs G => ?_)
              refine zb_ne hx hb d_TD_entry_60 rfl (fun h60 => ?_) (fun h60 => ?_)
              · skip
                refine lv_aload_n hx hb d_TD_entry_65 rfl (lv_at hl 0 rfl) ?_
                refine gf_TD_19 X G 0 rfl rfl d_TD_entry_66 ?_
                refine gf_TD_53 X G 3 rfl rfl d_TD_entry_69 ?_
                refine lv_iload_n hx hb d_TD_entry_72 rfl (lv_at hl 1 rfl) ?_
                refine lv_iload_n hx hb d_TD_entry_73 rfl (lv_at hl 2 rfl) ?_
                refine lv_iload_n hx hb d_TD_entry_74 rfl (lv_at hl 3 rfl) ?_
                refine lv_iload hx hb d_TD_entry_75 (lv_at hl 4 rfl) ?_
                refine zV_W (wr := [((q 0), .inr (0, [.ref (q 1), .ref (q 2), .ref (q 3), .ref (q 10), .ref (q 13), .int (nI cnt)])), ((q 1), .inl (cI, 8, .inl dm)), ((q 2), .inl (cI, 8, .inl db)), ((q 3), .inr (2, [.ref (q 4), .int (nI (B.1)), .ref (q 5), .ref (q 6), .ref (q 7)])), ((q 5), .inl (cI, 16, .inl B.kd)), ((q 6), .inl (cI, 48, .inl B.mb)), ((q 7), .inl (cI, 16, .inl B.nu)), ((q 10), .inr (3, [.int (nI lv), .ref (q 11), .ref (q 12)])), ((q 11), .inl (cI, 80, .inl od)), ((q 12), .inl (cI, 10, .inl om)), ((q 13), .inr (4, [.int (bP (U)), .int (nI p - 1), .int vi, .int fa, .int so, .ref (q 14), .ref (q 15), .ref (q 16), .int (bP (V))])), ((q 14), .inl (cI, 80, .inl dr)), ((q 15), .inl (cI, 9, .inl br)), ((q 16), .inl (cI, 9, .inl un))]) X G (c_LIappend l D cI q B mt rr a b c hr4 (hB.ls hr4).1 hl12 h45 h52 h60) lk_TD_65 [4, 8, 9] rfl (by decide) [0, 1, 2, 3, 5, 6, 7, 10, 11, 12, 13, 14, 15, 16] rfl (by decide) (by decide) 0 rfl rfl ⟨by decide, by decide⟩ ⟨Nat.zero_le _, Nat.zero_le _⟩ hl.1 rfl (Nat.le_of_ble_eq_true rfl) d_TD_entry_77 (fun u H locs q77 G => ?_)
                obtain ⟨m1, m2, m3, g1, g2, g3, rfl⟩ := q77
                have G : Gw D A zs.heap H locs [((q 0), .inr (0, [.ref (q 1), .ref (q 2), .ref (q 3), .ref (q 10), .ref (q 13), .int (nI cnt)])), ((q 1), .inl (cI, 8, .inl dm)), ((q 2), .inl (cI, 8, .inl db)), ((q 3), .inr (2, [.ref (q 4), .int (nI (B.1)), .ref (q 5), .ref (q 6), .ref (q 7)])), ((q 4), .inr (1, [.ref (q 8), .ref (q 9)])), ((q 5), .inl (cI, 16, .inl B.kd)), ((q 6), .inl (cI, 48, .inl B.mb)), ((q 7), .inl (cI, 16, .inl B.nu)), ((q 8), .inl (cI, 144, .inl (upd (upd (upd mt ((rr * 12 + B.ls rr) * 3) m1) (((rr * 12 + B.ls rr) * 3) + 1) m2) (((rr * 12 + B.ls rr) * 3) + 2) m3))), ((q 9), .inl (cI, 4, .inl (upd B.sz rr (nI (B.ls rr + 1))))), ((q 10), .inr (3, [.int (nI lv), .ref (q 11), .ref (q 12)])), ((q 11), .inl (cI, 80, .inl od)), ((q 12), .inl (cI, 10, .inl om)), ((q 13), .inr (4, [.int (bP (U)), .int (nI p - 1), .int vi, .int fa, .int so, .ref (q 14), .ref (q 15), .ref (q 16), .int (bP (V))])), ((q 14), .inl (cI, 80, .inl dr)), ((q 15), .inl (cI, 9, .inl br)), ((q 16), .inl (cI, 9, .inl un))] := G.sub [0, 1, 2, 3, 14, 4, 5, 6, 15, 16, 7, 8, 9, 10, 11, 12, 13] (by decide) rfl
                refine lv_iconst (v := (nI 1)) hx hb d_TD_entry_80 (by decide) ?_
                exact z_ret X hrt hlk G (rfl) (Or.inl ⟨⟨h4, ⟨rr, hr4, hxr, h22, h36⟩, h45, h52, h60⟩, rfl, rr, _, hr4, hxr, hl12, LOk.ent hM hr4 hl12 (fun k h9 => (hB.ls h9).2) g1 g2 g3, rfl⟩) d_TD_entry_81
              · skip
                refine lv_iconst (v := (nI 0)) hx hb d_TD_entry_63 (by decide) ?_
                exact z_ret X hrt hlk G (rfl) (Or.inr ⟨by first | exact fun h9 => h45 h9.2.2.1 | exact fun h9 => h52 h9.2.2.2.1 | exact fun h9 => h60 h9.2.2.2.2, rfl, rfl⟩) d_TD_entry_64
        · skip
          refine lv_iconst (v := (nI 0)) hx hb d_TD_entry_39 (by decide) ?_
          exact z_ret X hrt hlk G (rfl) (Or.inr ⟨by first | exact fun h9 => h4 h9.1 | (rintro ⟨_, ⟨r9, hr9, e9, _⟩, _⟩; exact h11 (by rw [e9, nI_toInt (by omega)]; omega)) | exact fun ⟨_, ⟨r9, hr9, e9, g9, f9⟩, _⟩ => by have e8 : r9 = rr := (nI_eq (by omega) (by omega)).mp (e9.symm.trans hxr); subst e8; first | exact g9 h22 | exact f9 h36, rfl, rfl⟩) d_TD_entry_40
set_option maxHeartbeats 4000000 in
set_option maxRecDepth 100000 in
theorem c_differ (l : Launch) (D : va_G) (cI : ClassId) (q : Nat → Nat) (cnt lv p : Nat) (B : Bk) (mt dm db od om dr br un : Nat → Int32) (U V : Prop) (vi fa so : Int32) (x y c3 : Int32) (hc8 : cnt ≤ 8) (hn16 : B.1 ≤ 16) (hlv : lv ≤ 10) : MI l y_TD_differ b_TD_differ 4 .int 2 D cI [.ref (q 0), .int x, .int y, .int c3] [((q 0), .inr (0, [.ref (q 1), .ref (q 2), .ref (q 3), .ref (q 10), .ref (q 13), .int (nI cnt)])), ((q 1), .inl (cI, 8, .inl dm)), ((q 2), .inl (cI, 8, .inl db)), ((q 3), .inr (2, [.ref (q 4), .int (nI (B.1)), .ref (q 5), .ref (q 6), .ref (q 7)])), ((q 4), .inr (1, [.ref (q 8), .ref (q 9)])), ((q 5), .inl (cI, 16, .inl B.kd)), ((q 6), .inl (cI, 48, .inl B.mb)), ((q 7), .inl (cI, 16, .inl B.nu)), ((q 8), .inl (cI, 144, .inl mt)), ((q 9), .inl (cI, 4, .inl B.sz)), ((q 10), .inr (3, [.int (nI lv), .ref (q 11), .ref (q 12)])), ((q 11), .inl (cI, 80, .inl od)), ((q 12), .inl (cI, 10, .inl om)), ((q 13), .inr (4, [.int (bP (U)), .int (nI p - 1), .int vi, .int fa, .int so, .ref (q 14), .ref (q 15), .ref (q 16), .int (bP (V))])), ((q 14), .inl (cI, 80, .inl dr)), ((q 15), .inl (cI, 9, .inl br)), ((q 16), .inl (cI, 9, .inl un))] (fun r u => (((¬ U ∧ B.1 < 16) ∧ (0 ≤ x.toInt ∧ x.toInt < cnt) ∧ (0 ≤ y.toInt ∧ y.toInt < cnt) ∧ x.toInt ≠ y.toInt ∧ -15 ≤ c3.toInt ∧ c3.toInt ≤ 15) ∧ r = nI B.1 ∧ u = [((q 0), .inr (0, [.ref (q 1), .ref (q 2), .ref (q 3), .ref (q 10), .ref (q 13), .int (nI cnt)])), ((q 1), .inl (cI, 8, .inl dm)), ((q 2), .inl (cI, 8, .inl db)), ((q 3), .inr (2, [.ref (q 4), .int (nI ((apB B (nI 0) x y (-1) c3).1)), .ref (q 5), .ref (q 6), .ref (q 7)])), ((q 4), .inr (1, [.ref (q 8), .ref (q 9)])), ((q 5), .inl (cI, 16, .inl ((apB B (nI 0) x y (-1) c3).kd))), ((q 6), .inl (cI, 48, .inl ((apB B (nI 0) x y (-1) c3).mb))), ((q 7), .inl (cI, 16, .inl ((apB B (nI 0) x y (-1) c3).nu))), ((q 8), .inl (cI, 144, .inl mt)), ((q 9), .inl (cI, 4, .inl ((apB B (nI 0) x y (-1) c3).sz))), ((q 10), .inr (3, [.int (nI lv), .ref (q 11), .ref (q 12)])), ((q 11), .inl (cI, 80, .inl od)), ((q 12), .inl (cI, 10, .inl om)), ((q 13), .inr (4, [.int (bP (U)), .int (nI p - 1), .int vi, .int fa, .int so, .ref (q 14), .ref (q 15), .ref (q 16), .int (bP (V))])), ((q 14), .inl (cI, 80, .inl dr)), ((q 15), .inl (cI, 9, .inl br)), ((q 16), .inl (cI, 9, .inl un))]) ∨ (¬ ((¬ U ∧ B.1 < 16) ∧ (0 ≤ x.toInt ∧ x.toInt < cnt) ∧ (0 ≤ y.toInt ∧ y.toInt < cnt) ∧ x.toInt ≠ y.toInt ∧ -15 ≤ c3.toInt ∧ c3.toInt ≤ 15) ∧ r = -1 ∧ u = [((q 0), .inr (0, [.ref (q 1), .ref (q 2), .ref (q 3), .ref (q 10), .ref (q 13), .int (nI cnt)])), ((q 1), .inl (cI, 8, .inl dm)), ((q 2), .inl (cI, 8, .inl db)), ((q 3), .inr (2, [.ref (q 4), .int (nI (B.1)), .ref (q 5), .ref (q 6), .ref (q 7)])), ((q 4), .inr (1, [.ref (q 8), .ref (q 9)])), ((q 5), .inl (cI, 16, .inl B.kd)), ((q 6), .inl (cI, 48, .inl B.mb)), ((q 7), .inl (cI, 16, .inl B.nu)), ((q 8), .inl (cI, 144, .inl mt)), ((q 9), .inl (cI, 4, .inl B.sz)), ((q 10), .inr (3, [.int (nI lv), .ref (q 11), .ref (q 12)])), ((q 11), .inl (cI, 80, .inl od)), ((q 12), .inl (cI, 10, .inl om)), ((q 13), .inr (4, [.int (bP (U)), .int (nI p - 1), .int vi, .int fa, .int so, .ref (q 14), .ref (q 15), .ref (q 16), .int (bP (V))])), ((q 14), .inl (cI, 80, .inl dr)), ((q 15), .inl (cI, 9, .inl br)), ((q 16), .inl (cI, 9, .inl un))])) := by
  refine MI.of (by decide) (Nat.le_of_ble_eq_true rfl) ?_
  intro zp ze zs zm zb zt zc ls A X hrt hlk G hl
  have hx := X.1
  have hb := X.2.1
  have hl : lv_has ls 4 [(0, .ref (q 0)), (1, .int x), (2, .int y), (3, .int c3)] := hl
  refine lv_aload_n hx hb d_TD_differ_0 rfl (lv_at hl 0 rfl) ?_
  refine lv_iload_n hx hb d_TD_differ_1 rfl (lv_at hl 1 rfl) ?_
  refine lv_iload_n hx hb d_TD_differ_2 rfl (lv_at hl 2 rfl) ?_
  refine lv_iload_n hx hb d_TD_differ_3 rfl (lv_at hl 3 rfl) ?_
  refine zV_R X G (c_mayRelate l D cI q cnt lv p B mt dm db od om dr br un U V vi fa so x y c3 (by omega) (by omega) (by omega)) lk_TD_69 [0, 1, 2, 3, 4, 5, 6, 7, 8, 9, 10, 11, 12, 13, 14, 15, 16] rfl (by decide) 0 rfl rfl ⟨by decide, by decide⟩ ⟨Nat.zero_le _, Nat.zero_le _⟩ hl.1 rfl (Nat.le_of_ble_eq_true rfl) d_TD_differ_4 (fun H locs G => ?_)
  refine zb_eq hx hb d_TD_differ_7 rfl (fun h7 => ?_) (fun h7 => ?_)
  · skip
    refine lv_iconst (v := (-1)) hx hb d_TD_differ_25 (by decide) ?_
    exact z_ret X hrt hlk G (rfl) (Or.inr ⟨h7, rfl, rfl⟩) d_TD_differ_26
  · skip
    refine lv_aload_n hx hb d_TD_differ_10 rfl (lv_at hl 0 rfl) ?_
    refine gf_TD_19 X G 0 rfl rfl d_TD_differ_11 ?_
    refine lv_iconst (v := (nI 0)) hx hb d_TD_differ_14 (by decide) ?_
    refine lv_iload_n hx hb d_TD_differ_15 rfl (lv_at hl 1 rfl) ?_
    refine lv_iload_n hx hb d_TD_differ_16 rfl (lv_at hl 2 rfl) ?_
    refine lv_iconst (v := (-1)) hx hb d_TD_differ_17 (by decide) ?_
    refine lv_iload_n hx hb d_TD_differ_18 rfl (lv_at hl 3 rfl) ?_
    refine zV_I (wr := [((q 0), .inr (0, [.ref (q 1), .ref (q 2), .ref (q 3), .ref (q 10), .ref (q 13), .int (nI cnt)])), ((q 1), .inl (cI, 8, .inl dm)), ((q 2), .inl (cI, 8, .inl db)), ((q 10), .inr (3, [.int (nI lv), .ref (q 11), .ref (q 12)])), ((q 11), .inl (cI, 80, .inl od)), ((q 12), .inl (cI, 10, .inl om)), ((q 13), .inr (4, [.int (bP (U)), .int (nI p - 1), .int vi, .int fa, .int so, .ref (q 14), .ref (q 15), .ref (q 16), .int (bP (V))])), ((q 14), .inl (cI, 80, .inl dr)), ((q 15), .inl (cI, 9, .inl br)), ((q 16), .inl (cI, 9, .inl un))]) X G (c_RBappend l D cI q B mt (nI 0) x y (-1) c3 (by omega)) lk_TD_73 [3, 4, 5, 6, 7, 8, 9] rfl (by decide) [0, 1, 2, 10, 11, 12, 13, 14, 15, 16] rfl (by decide) (by decide) 0 rfl rfl ⟨by decide, by decide⟩ ⟨Nat.zero_le _, Nat.zero_le _⟩ hl.1 rfl (Nat.le_of_ble_eq_true rfl) d_TD_differ_19 (fun r19 u H locs q19 G => ?_)
    obtain ⟨q19, rfl⟩ := q19
    have G : Gw D A zs.heap H locs [((q 0), .inr (0, [.ref (q 1), .ref (q 2), .ref (q 3), .ref (q 10), .ref (q 13), .int (nI cnt)])), ((q 1), .inl (cI, 8, .inl dm)), ((q 2), .inl (cI, 8, .inl db)), ((q 3), .inr (2, [.ref (q 4), .int (nI ((apB B (nI 0) x y (-1) c3).1)), .ref (q 5), .ref (q 6), .ref (q 7)])), ((q 4), .inr (1, [.ref (q 8), .ref (q 9)])), ((q 5), .inl (cI, 16, .inl ((apB B (nI 0) x y (-1) c3).kd))), ((q 6), .inl (cI, 48, .inl ((apB B (nI 0) x y (-1) c3).mb))), ((q 7), .inl (cI, 16, .inl ((apB B (nI 0) x y (-1) c3).nu))), ((q 8), .inl (cI, 144, .inl mt)), ((q 9), .inl (cI, 4, .inl ((apB B (nI 0) x y (-1) c3).sz))), ((q 10), .inr (3, [.int (nI lv), .ref (q 11), .ref (q 12)])), ((q 11), .inl (cI, 80, .inl od)), ((q 12), .inl (cI, 10, .inl om)), ((q 13), .inr (4, [.int (bP (U)), .int (nI p - 1), .int vi, .int fa, .int so, .ref (q 14), .ref (q 15), .ref (q 16), .int (bP (V))])), ((q 14), .inl (cI, 80, .inl dr)), ((q 15), .inl (cI, 9, .inl br)), ((q 16), .inl (cI, 9, .inl un))] := G.sub [0, 1, 2, 10, 11, 12, 13, 14, 15, 16, 3, 4, 5, 6, 7, 8, 9] (by decide) rfl
    refine lv_goto hx hb d_TD_differ_22 rfl ?_
    exact z_ret X hrt hlk G (rfl) (Or.inl ⟨h7, q19, rfl⟩) d_TD_differ_26
set_option maxHeartbeats 4000000 in
set_option maxRecDepth 100000 in
theorem c_exceed (l : Launch) (D : va_G) (cI : ClassId) (q : Nat → Nat) (cnt lv p : Nat) (B : Bk) (mt dm db od om dr br un : Nat → Int32) (U V : Prop) (vi fa so : Int32) (x y c3 : Int32) (hc8 : cnt ≤ 8) (hn16 : B.1 ≤ 16) (hlv : lv ≤ 10) : MI l y_TD_exceed b_TD_exceed 4 .int 2 D cI [.ref (q 0), .int x, .int y, .int c3] [((q 0), .inr (0, [.ref (q 1), .ref (q 2), .ref (q 3), .ref (q 10), .ref (q 13), .int (nI cnt)])), ((q 1), .inl (cI, 8, .inl dm)), ((q 2), .inl (cI, 8, .inl db)), ((q 3), .inr (2, [.ref (q 4), .int (nI (B.1)), .ref (q 5), .ref (q 6), .ref (q 7)])), ((q 4), .inr (1, [.ref (q 8), .ref (q 9)])), ((q 5), .inl (cI, 16, .inl B.kd)), ((q 6), .inl (cI, 48, .inl B.mb)), ((q 7), .inl (cI, 16, .inl B.nu)), ((q 8), .inl (cI, 144, .inl mt)), ((q 9), .inl (cI, 4, .inl B.sz)), ((q 10), .inr (3, [.int (nI lv), .ref (q 11), .ref (q 12)])), ((q 11), .inl (cI, 80, .inl od)), ((q 12), .inl (cI, 10, .inl om)), ((q 13), .inr (4, [.int (bP (U)), .int (nI p - 1), .int vi, .int fa, .int so, .ref (q 14), .ref (q 15), .ref (q 16), .int (bP (V))])), ((q 14), .inl (cI, 80, .inl dr)), ((q 15), .inl (cI, 9, .inl br)), ((q 16), .inl (cI, 9, .inl un))] (fun r u => (((¬ U ∧ B.1 < 16) ∧ (0 ≤ x.toInt ∧ x.toInt < cnt) ∧ (0 ≤ y.toInt ∧ y.toInt < cnt) ∧ x.toInt ≠ y.toInt ∧ -15 ≤ c3.toInt ∧ c3.toInt ≤ 15) ∧ r = nI B.1 ∧ u = [((q 0), .inr (0, [.ref (q 1), .ref (q 2), .ref (q 3), .ref (q 10), .ref (q 13), .int (nI cnt)])), ((q 1), .inl (cI, 8, .inl dm)), ((q 2), .inl (cI, 8, .inl db)), ((q 3), .inr (2, [.ref (q 4), .int (nI ((apB B (nI 1) x y (-1) c3).1)), .ref (q 5), .ref (q 6), .ref (q 7)])), ((q 4), .inr (1, [.ref (q 8), .ref (q 9)])), ((q 5), .inl (cI, 16, .inl ((apB B (nI 1) x y (-1) c3).kd))), ((q 6), .inl (cI, 48, .inl ((apB B (nI 1) x y (-1) c3).mb))), ((q 7), .inl (cI, 16, .inl ((apB B (nI 1) x y (-1) c3).nu))), ((q 8), .inl (cI, 144, .inl mt)), ((q 9), .inl (cI, 4, .inl ((apB B (nI 1) x y (-1) c3).sz))), ((q 10), .inr (3, [.int (nI lv), .ref (q 11), .ref (q 12)])), ((q 11), .inl (cI, 80, .inl od)), ((q 12), .inl (cI, 10, .inl om)), ((q 13), .inr (4, [.int (bP (U)), .int (nI p - 1), .int vi, .int fa, .int so, .ref (q 14), .ref (q 15), .ref (q 16), .int (bP (V))])), ((q 14), .inl (cI, 80, .inl dr)), ((q 15), .inl (cI, 9, .inl br)), ((q 16), .inl (cI, 9, .inl un))]) ∨ (¬ ((¬ U ∧ B.1 < 16) ∧ (0 ≤ x.toInt ∧ x.toInt < cnt) ∧ (0 ≤ y.toInt ∧ y.toInt < cnt) ∧ x.toInt ≠ y.toInt ∧ -15 ≤ c3.toInt ∧ c3.toInt ≤ 15) ∧ r = -1 ∧ u = [((q 0), .inr (0, [.ref (q 1), .ref (q 2), .ref (q 3), .ref (q 10), .ref (q 13), .int (nI cnt)])), ((q 1), .inl (cI, 8, .inl dm)), ((q 2), .inl (cI, 8, .inl db)), ((q 3), .inr (2, [.ref (q 4), .int (nI (B.1)), .ref (q 5), .ref (q 6), .ref (q 7)])), ((q 4), .inr (1, [.ref (q 8), .ref (q 9)])), ((q 5), .inl (cI, 16, .inl B.kd)), ((q 6), .inl (cI, 48, .inl B.mb)), ((q 7), .inl (cI, 16, .inl B.nu)), ((q 8), .inl (cI, 144, .inl mt)), ((q 9), .inl (cI, 4, .inl B.sz)), ((q 10), .inr (3, [.int (nI lv), .ref (q 11), .ref (q 12)])), ((q 11), .inl (cI, 80, .inl od)), ((q 12), .inl (cI, 10, .inl om)), ((q 13), .inr (4, [.int (bP (U)), .int (nI p - 1), .int vi, .int fa, .int so, .ref (q 14), .ref (q 15), .ref (q 16), .int (bP (V))])), ((q 14), .inl (cI, 80, .inl dr)), ((q 15), .inl (cI, 9, .inl br)), ((q 16), .inl (cI, 9, .inl un))])) := by
  refine MI.of (by decide) (Nat.le_of_ble_eq_true rfl) ?_
  intro zp ze zs zm zb zt zc ls A X hrt hlk G hl
  have hx := X.1
  have hb := X.2.1
  have hl : lv_has ls 4 [(0, .ref (q 0)), (1, .int x), (2, .int y), (3, .int c3)] := hl
  refine lv_aload_n hx hb d_TD_exceed_0 rfl (lv_at hl 0 rfl) ?_
  refine lv_iload_n hx hb d_TD_exceed_1 rfl (lv_at hl 1 rfl) ?_
  refine lv_iload_n hx hb d_TD_exceed_2 rfl (lv_at hl 2 rfl) ?_
  refine lv_iload_n hx hb d_TD_exceed_3 rfl (lv_at hl 3 rfl) ?_
  refine zV_R X G (c_mayRelate l D cI q cnt lv p B mt dm db od om dr br un U V vi fa so x y c3 (by omega) (by omega) (by omega)) lk_TD_69 [0, 1, 2, 3, 4, 5, 6, 7, 8, 9, 10, 11, 12, 13, 14, 15, 16] rfl (by decide) 0 rfl rfl ⟨by decide, by decide⟩ ⟨Nat.zero_le _, Nat.zero_le _⟩ hl.1 rfl (Nat.le_of_ble_eq_true rfl) d_TD_exceed_4 (fun H locs G => ?_)
  refine zb_eq hx hb d_TD_exceed_7 rfl (fun h7 => ?_) (fun h7 => ?_)
  · skip
    refine lv_iconst (v := (-1)) hx hb d_TD_exceed_25 (by decide) ?_
    exact z_ret X hrt hlk G (rfl) (Or.inr ⟨h7, rfl, rfl⟩) d_TD_exceed_26
  · skip
    refine lv_aload_n hx hb d_TD_exceed_10 rfl (lv_at hl 0 rfl) ?_
    refine gf_TD_19 X G 0 rfl rfl d_TD_exceed_11 ?_
    refine lv_iconst (v := (nI 1)) hx hb d_TD_exceed_14 (by decide) ?_
    refine lv_iload_n hx hb d_TD_exceed_15 rfl (lv_at hl 1 rfl) ?_
    refine lv_iload_n hx hb d_TD_exceed_16 rfl (lv_at hl 2 rfl) ?_
    refine lv_iconst (v := (-1)) hx hb d_TD_exceed_17 (by decide) ?_
    refine lv_iload_n hx hb d_TD_exceed_18 rfl (lv_at hl 3 rfl) ?_
    refine zV_I (wr := [((q 0), .inr (0, [.ref (q 1), .ref (q 2), .ref (q 3), .ref (q 10), .ref (q 13), .int (nI cnt)])), ((q 1), .inl (cI, 8, .inl dm)), ((q 2), .inl (cI, 8, .inl db)), ((q 10), .inr (3, [.int (nI lv), .ref (q 11), .ref (q 12)])), ((q 11), .inl (cI, 80, .inl od)), ((q 12), .inl (cI, 10, .inl om)), ((q 13), .inr (4, [.int (bP (U)), .int (nI p - 1), .int vi, .int fa, .int so, .ref (q 14), .ref (q 15), .ref (q 16), .int (bP (V))])), ((q 14), .inl (cI, 80, .inl dr)), ((q 15), .inl (cI, 9, .inl br)), ((q 16), .inl (cI, 9, .inl un))]) X G (c_RBappend l D cI q B mt (nI 1) x y (-1) c3 (by omega)) lk_TD_73 [3, 4, 5, 6, 7, 8, 9] rfl (by decide) [0, 1, 2, 10, 11, 12, 13, 14, 15, 16] rfl (by decide) (by decide) 0 rfl rfl ⟨by decide, by decide⟩ ⟨Nat.zero_le _, Nat.zero_le _⟩ hl.1 rfl (Nat.le_of_ble_eq_true rfl) d_TD_exceed_19 (fun r19 u H locs q19 G => ?_)
    obtain ⟨q19, rfl⟩ := q19
    have G : Gw D A zs.heap H locs [((q 0), .inr (0, [.ref (q 1), .ref (q 2), .ref (q 3), .ref (q 10), .ref (q 13), .int (nI cnt)])), ((q 1), .inl (cI, 8, .inl dm)), ((q 2), .inl (cI, 8, .inl db)), ((q 3), .inr (2, [.ref (q 4), .int (nI ((apB B (nI 1) x y (-1) c3).1)), .ref (q 5), .ref (q 6), .ref (q 7)])), ((q 4), .inr (1, [.ref (q 8), .ref (q 9)])), ((q 5), .inl (cI, 16, .inl ((apB B (nI 1) x y (-1) c3).kd))), ((q 6), .inl (cI, 48, .inl ((apB B (nI 1) x y (-1) c3).mb))), ((q 7), .inl (cI, 16, .inl ((apB B (nI 1) x y (-1) c3).nu))), ((q 8), .inl (cI, 144, .inl mt)), ((q 9), .inl (cI, 4, .inl ((apB B (nI 1) x y (-1) c3).sz))), ((q 10), .inr (3, [.int (nI lv), .ref (q 11), .ref (q 12)])), ((q 11), .inl (cI, 80, .inl od)), ((q 12), .inl (cI, 10, .inl om)), ((q 13), .inr (4, [.int (bP (U)), .int (nI p - 1), .int vi, .int fa, .int so, .ref (q 14), .ref (q 15), .ref (q 16), .int (bP (V))])), ((q 14), .inl (cI, 80, .inl dr)), ((q 15), .inl (cI, 9, .inl br)), ((q 16), .inl (cI, 9, .inl un))] := G.sub [0, 1, 2, 10, 11, 12, 13, 14, 15, 16, 3, 4, 5, 6, 7, 8, 9] (by decide) rfl
    refine lv_goto hx hb d_TD_exceed_22 rfl ?_
    exact z_ret X hrt hlk G (rfl) (Or.inl ⟨h7, q19, rfl⟩) d_TD_exceed_26
set_option maxHeartbeats 4000000 in
set_option maxRecDepth 100000 in
theorem c_total (l : Launch) (D : va_G) (cI : ClassId) (q : Nat → Nat) (cnt lv p : Nat) (B : Bk) (mt dm db od om dr br un : Nat → Int32) (U V : Prop) (vi fa so : Int32) (x y z c3 : Int32) (hc8 : cnt ≤ 8) (hn16 : B.1 ≤ 16) (hlv : lv ≤ 10) : MI l y_TD_total b_TD_total 5 .int 2 D cI [.ref (q 0), .int x, .int y, .int z, .int c3] [((q 0), .inr (0, [.ref (q 1), .ref (q 2), .ref (q 3), .ref (q 10), .ref (q 13), .int (nI cnt)])), ((q 1), .inl (cI, 8, .inl dm)), ((q 2), .inl (cI, 8, .inl db)), ((q 3), .inr (2, [.ref (q 4), .int (nI (B.1)), .ref (q 5), .ref (q 6), .ref (q 7)])), ((q 4), .inr (1, [.ref (q 8), .ref (q 9)])), ((q 5), .inl (cI, 16, .inl B.kd)), ((q 6), .inl (cI, 48, .inl B.mb)), ((q 7), .inl (cI, 16, .inl B.nu)), ((q 8), .inl (cI, 144, .inl mt)), ((q 9), .inl (cI, 4, .inl B.sz)), ((q 10), .inr (3, [.int (nI lv), .ref (q 11), .ref (q 12)])), ((q 11), .inl (cI, 80, .inl od)), ((q 12), .inl (cI, 10, .inl om)), ((q 13), .inr (4, [.int (bP (U)), .int (nI p - 1), .int vi, .int fa, .int so, .ref (q 14), .ref (q 15), .ref (q 16), .int (bP (V))])), ((q 14), .inl (cI, 80, .inl dr)), ((q 15), .inl (cI, 9, .inl br)), ((q 16), .inl (cI, 9, .inl un))] (fun r u => (((¬ U ∧ B.1 < 16) ∧ ((0 ≤ x.toInt ∧ x.toInt < cnt) ∧ (0 ≤ y.toInt ∧ y.toInt < cnt) ∧ (0 ≤ z.toInt ∧ z.toInt < cnt) ∧ x.toInt ≠ y.toInt ∧ y.toInt ≠ z.toInt ∧ x.toInt ≠ z.toInt) ∧ 0 ≤ c3.toInt ∧ c3.toInt ≤ 45) ∧ r = nI B.1 ∧ u = [((q 0), .inr (0, [.ref (q 1), .ref (q 2), .ref (q 3), .ref (q 10), .ref (q 13), .int (nI cnt)])), ((q 1), .inl (cI, 8, .inl dm)), ((q 2), .inl (cI, 8, .inl db)), ((q 3), .inr (2, [.ref (q 4), .int (nI ((apB B (nI 2) x y z c3).1)), .ref (q 5), .ref (q 6), .ref (q 7)])), ((q 4), .inr (1, [.ref (q 8), .ref (q 9)])), ((q 5), .inl (cI, 16, .inl ((apB B (nI 2) x y z c3).kd))), ((q 6), .inl (cI, 48, .inl ((apB B (nI 2) x y z c3).mb))), ((q 7), .inl (cI, 16, .inl ((apB B (nI 2) x y z c3).nu))), ((q 8), .inl (cI, 144, .inl mt)), ((q 9), .inl (cI, 4, .inl ((apB B (nI 2) x y z c3).sz))), ((q 10), .inr (3, [.int (nI lv), .ref (q 11), .ref (q 12)])), ((q 11), .inl (cI, 80, .inl od)), ((q 12), .inl (cI, 10, .inl om)), ((q 13), .inr (4, [.int (bP (U)), .int (nI p - 1), .int vi, .int fa, .int so, .ref (q 14), .ref (q 15), .ref (q 16), .int (bP (V))])), ((q 14), .inl (cI, 80, .inl dr)), ((q 15), .inl (cI, 9, .inl br)), ((q 16), .inl (cI, 9, .inl un))]) ∨ (¬ ((¬ U ∧ B.1 < 16) ∧ ((0 ≤ x.toInt ∧ x.toInt < cnt) ∧ (0 ≤ y.toInt ∧ y.toInt < cnt) ∧ (0 ≤ z.toInt ∧ z.toInt < cnt) ∧ x.toInt ≠ y.toInt ∧ y.toInt ≠ z.toInt ∧ x.toInt ≠ z.toInt) ∧ 0 ≤ c3.toInt ∧ c3.toInt ≤ 45) ∧ r = -1 ∧ u = [((q 0), .inr (0, [.ref (q 1), .ref (q 2), .ref (q 3), .ref (q 10), .ref (q 13), .int (nI cnt)])), ((q 1), .inl (cI, 8, .inl dm)), ((q 2), .inl (cI, 8, .inl db)), ((q 3), .inr (2, [.ref (q 4), .int (nI (B.1)), .ref (q 5), .ref (q 6), .ref (q 7)])), ((q 4), .inr (1, [.ref (q 8), .ref (q 9)])), ((q 5), .inl (cI, 16, .inl B.kd)), ((q 6), .inl (cI, 48, .inl B.mb)), ((q 7), .inl (cI, 16, .inl B.nu)), ((q 8), .inl (cI, 144, .inl mt)), ((q 9), .inl (cI, 4, .inl B.sz)), ((q 10), .inr (3, [.int (nI lv), .ref (q 11), .ref (q 12)])), ((q 11), .inl (cI, 80, .inl od)), ((q 12), .inl (cI, 10, .inl om)), ((q 13), .inr (4, [.int (bP (U)), .int (nI p - 1), .int vi, .int fa, .int so, .ref (q 14), .ref (q 15), .ref (q 16), .int (bP (V))])), ((q 14), .inl (cI, 80, .inl dr)), ((q 15), .inl (cI, 9, .inl br)), ((q 16), .inl (cI, 9, .inl un))])) := by
  refine MI.of (by decide) (Nat.le_of_ble_eq_true rfl) ?_
  intro zp ze zs zm zb zt zc ls A X hrt hlk G hl
  have hx := X.1
  have hb := X.2.1
  have hl : lv_has ls 5 [(0, .ref (q 0)), (1, .int x), (2, .int y), (3, .int z), (4, .int c3)] := hl
  refine lv_aload_n hx hb d_TD_total_0 rfl (lv_at hl 0 rfl) ?_
  refine zV_R X G (c_mayMakeRule l D cI q cnt lv p B mt dm db od om dr br un U V vi fa so  (by omega) (by omega) (by omega)) lk_TD_76 [0, 1, 2, 3, 4, 5, 6, 7, 8, 9, 10, 11, 12, 13, 14, 15, 16] rfl (by decide) 0 rfl rfl ⟨by decide, by decide⟩ ⟨Nat.zero_le _, Nat.zero_le _⟩ hl.1 rfl (Nat.le_of_ble_eq_true rfl) d_TD_total_1 (fun H locs G => ?_)
  refine zb_eq hx hb d_TD_total_4 rfl (fun h4 => ?_) (fun h4 => ?_)
  · skip
    refine lv_iconst (v := (-1)) hx hb d_TD_total_29 (by decide) ?_
    exact z_ret X hrt hlk G (rfl) (Or.inr ⟨by first | exact fun h9 => h4 h9.1 | exact fun h9 => h14 h9.2.1 | exact fun h9 => absurd h9.2.2 (by omega), rfl, rfl⟩) d_TD_total_30
  · skip
    refine lv_aload_n hx hb d_TD_total_7 rfl (lv_at hl 0 rfl) ?_
    refine lv_iload_n hx hb d_TD_total_8 rfl (lv_at hl 1 rfl) ?_
    refine lv_iload_n hx hb d_TD_total_9 rfl (lv_at hl 2 rfl) ?_
    refine lv_iload_n hx hb d_TD_total_10 rfl (lv_at hl 3 rfl) ?_
    refine zV_R X G (c_areThree l D cI q cnt lv p B mt dm db od om dr br un U V vi fa so x y z (by omega) (by omega) (by omega)) lk_TD_79 [0, 1, 2, 3, 4, 5, 6, 7, 8, 9, 10, 11, 12, 13, 14, 15, 16] rfl (by decide) 0 rfl rfl ⟨by decide, by decide⟩ ⟨Nat.zero_le _, Nat.zero_le _⟩ hl.1 rfl (Nat.le_of_ble_eq_true rfl) d_TD_total_11 (fun H locs G => ?_)
    refine zb_eq hx hb d_TD_total_14 rfl (fun h14 => ?_) (fun h14 => ?_)
    · skip
      refine lv_iconst (v := (-1)) hx hb d_TD_total_29 (by decide) ?_
      exact z_ret X hrt hlk G (rfl) (Or.inr ⟨by first | exact fun h9 => h4 h9.1 | exact fun h9 => h14 h9.2.1 | exact fun h9 => absurd h9.2.2 (by omega), rfl, rfl⟩) d_TD_total_30
    · skip
      refine lv_iload hx hb d_TD_total_17 (lv_at hl 4 rfl) ?_
      refine zi_if_lt hx hb d_TD_total_19 rfl rfl (fun h19 => ?_) (fun h19 => ?_)
      · skip
        refine lv_iconst (v := (-1)) hx hb d_TD_total_29 (by decide) ?_
        exact z_ret X hrt hlk G (rfl) (Or.inr ⟨by first | exact fun h9 => h4 h9.1 | exact fun h9 => h14 h9.2.1 | exact fun h9 => absurd h9.2.2 (by omega), rfl, rfl⟩) d_TD_total_30
      · skip
        refine lv_iload hx hb d_TD_total_22 (lv_at hl 4 rfl) ?_
        refine lv_bipush (v := (nI 45)) hx hb d_TD_total_24 (by decide) ?_
        refine zi_icmp_le hx hb d_TD_total_26 rfl rfl (by decide : (nI 45).toInt = 45) (fun h26 => ?_) (fun h26 => ?_)
        · skip
          refine lv_aload_n hx hb d_TD_total_31 rfl (lv_at hl 0 rfl) ?_
          refine gf_TD_19 X G 0 rfl rfl d_TD_total_32 ?_
          refine lv_iconst (v := (nI 2)) hx hb d_TD_total_35 (by decide) ?_
          refine lv_iload_n hx hb d_TD_total_36 rfl (lv_at hl 1 rfl) ?_
          refine lv_iload_n hx hb d_TD_total_37 rfl (lv_at hl 2 rfl) ?_
          refine lv_iload_n hx hb d_TD_total_38 rfl (lv_at hl 3 rfl) ?_
          refine lv_iload hx hb d_TD_total_39 (lv_at hl 4 rfl) ?_
          refine zV_I (wr := [((q 0), .inr (0, [.ref (q 1), .ref (q 2), .ref (q 3), .ref (q 10), .ref (q 13), .int (nI cnt)])), ((q 1), .inl (cI, 8, .inl dm)), ((q 2), .inl (cI, 8, .inl db)), ((q 10), .inr (3, [.int (nI lv), .ref (q 11), .ref (q 12)])), ((q 11), .inl (cI, 80, .inl od)), ((q 12), .inl (cI, 10, .inl om)), ((q 13), .inr (4, [.int (bP (U)), .int (nI p - 1), .int vi, .int fa, .int so, .ref (q 14), .ref (q 15), .ref (q 16), .int (bP (V))])), ((q 14), .inl (cI, 80, .inl dr)), ((q 15), .inl (cI, 9, .inl br)), ((q 16), .inl (cI, 9, .inl un))]) X G (c_RBappend l D cI q B mt (nI 2) x y z c3 (by omega)) lk_TD_73 [3, 4, 5, 6, 7, 8, 9] rfl (by decide) [0, 1, 2, 10, 11, 12, 13, 14, 15, 16] rfl (by decide) (by decide) 0 rfl rfl ⟨by decide, by decide⟩ ⟨Nat.zero_le _, Nat.zero_le _⟩ hl.1 rfl (Nat.le_of_ble_eq_true rfl) d_TD_total_41 (fun r41 u H locs q41 G => ?_)
          obtain ⟨q41, rfl⟩ := q41
          have G : Gw D A zs.heap H locs [((q 0), .inr (0, [.ref (q 1), .ref (q 2), .ref (q 3), .ref (q 10), .ref (q 13), .int (nI cnt)])), ((q 1), .inl (cI, 8, .inl dm)), ((q 2), .inl (cI, 8, .inl db)), ((q 3), .inr (2, [.ref (q 4), .int (nI ((apB B (nI 2) x y z c3).1)), .ref (q 5), .ref (q 6), .ref (q 7)])), ((q 4), .inr (1, [.ref (q 8), .ref (q 9)])), ((q 5), .inl (cI, 16, .inl ((apB B (nI 2) x y z c3).kd))), ((q 6), .inl (cI, 48, .inl ((apB B (nI 2) x y z c3).mb))), ((q 7), .inl (cI, 16, .inl ((apB B (nI 2) x y z c3).nu))), ((q 8), .inl (cI, 144, .inl mt)), ((q 9), .inl (cI, 4, .inl ((apB B (nI 2) x y z c3).sz))), ((q 10), .inr (3, [.int (nI lv), .ref (q 11), .ref (q 12)])), ((q 11), .inl (cI, 80, .inl od)), ((q 12), .inl (cI, 10, .inl om)), ((q 13), .inr (4, [.int (bP (U)), .int (nI p - 1), .int vi, .int fa, .int so, .ref (q 14), .ref (q 15), .ref (q 16), .int (bP (V))])), ((q 14), .inl (cI, 80, .inl dr)), ((q 15), .inl (cI, 9, .inl br)), ((q 16), .inl (cI, 9, .inl un))] := G.sub [0, 1, 2, 10, 11, 12, 13, 14, 15, 16, 3, 4, 5, 6, 7, 8, 9] (by decide) rfl
          exact z_ret X hrt hlk G (rfl) (Or.inl ⟨⟨h4, h14, by omega, by omega⟩, q41, rfl⟩) d_TD_total_44
        · skip
          refine lv_iconst (v := (-1)) hx hb d_TD_total_29 (by decide) ?_
          exact z_ret X hrt hlk G (rfl) (Or.inr ⟨by first | exact fun h9 => h4 h9.1 | exact fun h9 => h14 h9.2.1 | exact fun h9 => absurd h9.2.2 (by omega), rfl, rfl⟩) d_TD_total_30
set_option maxHeartbeats 4000000 in
set_option maxRecDepth 100000 in
theorem c_listed (l : Launch) (D : va_G) (cI : ClassId) (q : Nat → Nat) (cnt lv p : Nat) (B : Bk) (mt dm db od om dr br un : Nat → Int32) (U V : Prop) (vi fa so : Int32) (c3 x y z : Int32) (hc8 : cnt ≤ 8) (hn16 : B.1 ≤ 16) (hlv : lv ≤ 10) : MI l y_TD_listed b_TD_listed 5 .int 2 D cI [.ref (q 0), .int c3, .int x, .int y, .int z] [((q 0), .inr (0, [.ref (q 1), .ref (q 2), .ref (q 3), .ref (q 10), .ref (q 13), .int (nI cnt)])), ((q 1), .inl (cI, 8, .inl dm)), ((q 2), .inl (cI, 8, .inl db)), ((q 3), .inr (2, [.ref (q 4), .int (nI (B.1)), .ref (q 5), .ref (q 6), .ref (q 7)])), ((q 4), .inr (1, [.ref (q 8), .ref (q 9)])), ((q 5), .inl (cI, 16, .inl B.kd)), ((q 6), .inl (cI, 48, .inl B.mb)), ((q 7), .inl (cI, 16, .inl B.nu)), ((q 8), .inl (cI, 144, .inl mt)), ((q 9), .inl (cI, 4, .inl B.sz)), ((q 10), .inr (3, [.int (nI lv), .ref (q 11), .ref (q 12)])), ((q 11), .inl (cI, 80, .inl od)), ((q 12), .inl (cI, 10, .inl om)), ((q 13), .inr (4, [.int (bP (U)), .int (nI p - 1), .int vi, .int fa, .int so, .ref (q 14), .ref (q 15), .ref (q 16), .int (bP (V))])), ((q 14), .inl (cI, 80, .inl dr)), ((q 15), .inl (cI, 9, .inl br)), ((q 16), .inl (cI, 9, .inl un))] (fun r u => (((¬ U ∧ B.1 < 16) ∧ (0 ≤ c3.toInt ∧ c3.toInt < 4) ∧ ((0 ≤ x.toInt ∧ x.toInt < cnt) ∧ (0 ≤ y.toInt ∧ y.toInt < cnt) ∧ (0 ≤ z.toInt ∧ z.toInt < cnt) ∧ x.toInt ≠ y.toInt ∧ y.toInt ≠ z.toInt ∧ x.toInt ≠ z.toInt)) ∧ r = nI B.1 ∧ u = [((q 0), .inr (0, [.ref (q 1), .ref (q 2), .ref (q 3), .ref (q 10), .ref (q 13), .int (nI cnt)])), ((q 1), .inl (cI, 8, .inl dm)), ((q 2), .inl (cI, 8, .inl db)), ((q 3), .inr (2, [.ref (q 4), .int (nI ((apB B (nI 3) x y z c3).1)), .ref (q 5), .ref (q 6), .ref (q 7)])), ((q 4), .inr (1, [.ref (q 8), .ref (q 9)])), ((q 5), .inl (cI, 16, .inl ((apB B (nI 3) x y z c3).kd))), ((q 6), .inl (cI, 48, .inl ((apB B (nI 3) x y z c3).mb))), ((q 7), .inl (cI, 16, .inl ((apB B (nI 3) x y z c3).nu))), ((q 8), .inl (cI, 144, .inl mt)), ((q 9), .inl (cI, 4, .inl ((apB B (nI 3) x y z c3).sz))), ((q 10), .inr (3, [.int (nI lv), .ref (q 11), .ref (q 12)])), ((q 11), .inl (cI, 80, .inl od)), ((q 12), .inl (cI, 10, .inl om)), ((q 13), .inr (4, [.int (bP (U)), .int (nI p - 1), .int vi, .int fa, .int so, .ref (q 14), .ref (q 15), .ref (q 16), .int (bP (V))])), ((q 14), .inl (cI, 80, .inl dr)), ((q 15), .inl (cI, 9, .inl br)), ((q 16), .inl (cI, 9, .inl un))]) ∨ (¬ ((¬ U ∧ B.1 < 16) ∧ (0 ≤ c3.toInt ∧ c3.toInt < 4) ∧ ((0 ≤ x.toInt ∧ x.toInt < cnt) ∧ (0 ≤ y.toInt ∧ y.toInt < cnt) ∧ (0 ≤ z.toInt ∧ z.toInt < cnt) ∧ x.toInt ≠ y.toInt ∧ y.toInt ≠ z.toInt ∧ x.toInt ≠ z.toInt)) ∧ r = -1 ∧ u = [((q 0), .inr (0, [.ref (q 1), .ref (q 2), .ref (q 3), .ref (q 10), .ref (q 13), .int (nI cnt)])), ((q 1), .inl (cI, 8, .inl dm)), ((q 2), .inl (cI, 8, .inl db)), ((q 3), .inr (2, [.ref (q 4), .int (nI (B.1)), .ref (q 5), .ref (q 6), .ref (q 7)])), ((q 4), .inr (1, [.ref (q 8), .ref (q 9)])), ((q 5), .inl (cI, 16, .inl B.kd)), ((q 6), .inl (cI, 48, .inl B.mb)), ((q 7), .inl (cI, 16, .inl B.nu)), ((q 8), .inl (cI, 144, .inl mt)), ((q 9), .inl (cI, 4, .inl B.sz)), ((q 10), .inr (3, [.int (nI lv), .ref (q 11), .ref (q 12)])), ((q 11), .inl (cI, 80, .inl od)), ((q 12), .inl (cI, 10, .inl om)), ((q 13), .inr (4, [.int (bP (U)), .int (nI p - 1), .int vi, .int fa, .int so, .ref (q 14), .ref (q 15), .ref (q 16), .int (bP (V))])), ((q 14), .inl (cI, 80, .inl dr)), ((q 15), .inl (cI, 9, .inl br)), ((q 16), .inl (cI, 9, .inl un))])) := by
  refine MI.of (by decide) (Nat.le_of_ble_eq_true rfl) ?_
  intro zp ze zs zm zb zt zc ls A X hrt hlk G hl
  have hx := X.1
  have hb := X.2.1
  have hl : lv_has ls 5 [(0, .ref (q 0)), (1, .int c3), (2, .int x), (3, .int y), (4, .int z)] := hl
  refine lv_aload_n hx hb d_TD_listed_0 rfl (lv_at hl 0 rfl) ?_
  refine zV_R X G (c_mayMakeRule l D cI q cnt lv p B mt dm db od om dr br un U V vi fa so  (by omega) (by omega) (by omega)) lk_TD_76 [0, 1, 2, 3, 4, 5, 6, 7, 8, 9, 10, 11, 12, 13, 14, 15, 16] rfl (by decide) 0 rfl rfl ⟨by decide, by decide⟩ ⟨Nat.zero_le _, Nat.zero_le _⟩ hl.1 rfl (Nat.le_of_ble_eq_true rfl) d_TD_listed_1 (fun H locs G => ?_)
  refine zb_eq hx hb d_TD_listed_4 rfl (fun h4 => ?_) (fun h4 => ?_)
  · skip
    refine lv_iconst (v := (-1)) hx hb d_TD_listed_25 (by decide) ?_
    exact z_ret X hrt hlk G (rfl) (Or.inr ⟨by first | exact fun h9 => h4 h9.1 | exact fun h9 => h11 h9.2.1 | exact fun h9 => h22 h9.2.2, rfl, rfl⟩) d_TD_listed_26
  · skip
    refine lv_iload_n hx hb d_TD_listed_7 rfl (lv_at hl 1 rfl) ?_
    refine zS_R X G (c_isList l D cI c3) lk_TD_46 [] rfl (by decide) ⟨by decide, by decide⟩ ⟨Nat.zero_le _, Nat.zero_le _⟩ hl.1 rfl (Nat.le_of_ble_eq_true rfl) d_TD_listed_8 (fun H locs G => ?_)
    refine zb_eq hx hb d_TD_listed_11 rfl (fun h11 => ?_) (fun h11 => ?_)
    · skip
      refine lv_iconst (v := (-1)) hx hb d_TD_listed_25 (by decide) ?_
      exact z_ret X hrt hlk G (rfl) (Or.inr ⟨by first | exact fun h9 => h4 h9.1 | exact fun h9 => h11 h9.2.1 | exact fun h9 => h22 h9.2.2, rfl, rfl⟩) d_TD_listed_26
    · skip
      refine lv_aload_n hx hb d_TD_listed_14 rfl (lv_at hl 0 rfl) ?_
      refine lv_iload_n hx hb d_TD_listed_15 rfl (lv_at hl 2 rfl) ?_
      refine lv_iload_n hx hb d_TD_listed_16 rfl (lv_at hl 3 rfl) ?_
      refine lv_iload hx hb d_TD_listed_17 (lv_at hl 4 rfl) ?_
      refine zV_R X G (c_areThree l D cI q cnt lv p B mt dm db od om dr br un U V vi fa so x y z (by omega) (by omega) (by omega)) lk_TD_79 [0, 1, 2, 3, 4, 5, 6, 7, 8, 9, 10, 11, 12, 13, 14, 15, 16] rfl (by decide) 0 rfl rfl ⟨by decide, by decide⟩ ⟨Nat.zero_le _, Nat.zero_le _⟩ hl.1 rfl (Nat.le_of_ble_eq_true rfl) d_TD_listed_19 (fun H locs G => ?_)
      refine zb_ne hx hb d_TD_listed_22 rfl (fun h22 => ?_) (fun h22 => ?_)
      · skip
        refine lv_aload_n hx hb d_TD_listed_27 rfl (lv_at hl 0 rfl) ?_
        refine gf_TD_19 X G 0 rfl rfl d_TD_listed_28 ?_
        refine lv_iconst (v := (nI 3)) hx hb d_TD_listed_31 (by decide) ?_
        refine lv_iload_n hx hb d_TD_listed_32 rfl (lv_at hl 2 rfl) ?_
        refine lv_iload_n hx hb d_TD_listed_33 rfl (lv_at hl 3 rfl) ?_
        refine lv_iload hx hb d_TD_listed_34 (lv_at hl 4 rfl) ?_
        refine lv_iload_n hx hb d_TD_listed_36 rfl (lv_at hl 1 rfl) ?_
        refine zV_I (wr := [((q 0), .inr (0, [.ref (q 1), .ref (q 2), .ref (q 3), .ref (q 10), .ref (q 13), .int (nI cnt)])), ((q 1), .inl (cI, 8, .inl dm)), ((q 2), .inl (cI, 8, .inl db)), ((q 10), .inr (3, [.int (nI lv), .ref (q 11), .ref (q 12)])), ((q 11), .inl (cI, 80, .inl od)), ((q 12), .inl (cI, 10, .inl om)), ((q 13), .inr (4, [.int (bP (U)), .int (nI p - 1), .int vi, .int fa, .int so, .ref (q 14), .ref (q 15), .ref (q 16), .int (bP (V))])), ((q 14), .inl (cI, 80, .inl dr)), ((q 15), .inl (cI, 9, .inl br)), ((q 16), .inl (cI, 9, .inl un))]) X G (c_RBappend l D cI q B mt (nI 3) x y z c3 (by omega)) lk_TD_73 [3, 4, 5, 6, 7, 8, 9] rfl (by decide) [0, 1, 2, 10, 11, 12, 13, 14, 15, 16] rfl (by decide) (by decide) 0 rfl rfl ⟨by decide, by decide⟩ ⟨Nat.zero_le _, Nat.zero_le _⟩ hl.1 rfl (Nat.le_of_ble_eq_true rfl) d_TD_listed_37 (fun r37 u H locs q37 G => ?_)
        obtain ⟨q37, rfl⟩ := q37
        have G : Gw D A zs.heap H locs [((q 0), .inr (0, [.ref (q 1), .ref (q 2), .ref (q 3), .ref (q 10), .ref (q 13), .int (nI cnt)])), ((q 1), .inl (cI, 8, .inl dm)), ((q 2), .inl (cI, 8, .inl db)), ((q 3), .inr (2, [.ref (q 4), .int (nI ((apB B (nI 3) x y z c3).1)), .ref (q 5), .ref (q 6), .ref (q 7)])), ((q 4), .inr (1, [.ref (q 8), .ref (q 9)])), ((q 5), .inl (cI, 16, .inl ((apB B (nI 3) x y z c3).kd))), ((q 6), .inl (cI, 48, .inl ((apB B (nI 3) x y z c3).mb))), ((q 7), .inl (cI, 16, .inl ((apB B (nI 3) x y z c3).nu))), ((q 8), .inl (cI, 144, .inl mt)), ((q 9), .inl (cI, 4, .inl ((apB B (nI 3) x y z c3).sz))), ((q 10), .inr (3, [.int (nI lv), .ref (q 11), .ref (q 12)])), ((q 11), .inl (cI, 80, .inl od)), ((q 12), .inl (cI, 10, .inl om)), ((q 13), .inr (4, [.int (bP (U)), .int (nI p - 1), .int vi, .int fa, .int so, .ref (q 14), .ref (q 15), .ref (q 16), .int (bP (V))])), ((q 14), .inl (cI, 80, .inl dr)), ((q 15), .inl (cI, 9, .inl br)), ((q 16), .inl (cI, 9, .inl un))] := G.sub [0, 1, 2, 10, 11, 12, 13, 14, 15, 16, 3, 4, 5, 6, 7, 8, 9] (by decide) rfl
        exact z_ret X hrt hlk G (rfl) (Or.inl ⟨⟨h4, h11, h22⟩, q37, rfl⟩) d_TD_listed_40
      · skip
        refine lv_iconst (v := (-1)) hx hb d_TD_listed_25 (by decide) ?_
        exact z_ret X hrt hlk G (rfl) (Or.inr ⟨by first | exact fun h9 => h4 h9.1 | exact fun h9 => h11 h9.2.1 | exact fun h9 => h22 h9.2.2, rfl, rfl⟩) d_TD_listed_26
set_option maxHeartbeats 4000000 in
set_option maxRecDepth 100000 in
theorem c_remove (l : Launch) (D : va_G) (cI : ClassId) (q : Nat → Nat) (cnt lv p : Nat) (B : Bk) (mt dm db od om dr br un : Nat → Int32) (U V : Prop) (vi fa so : Int32) (x v : Int32) (hD : DOk cnt dm) (hc8 : cnt ≤ 8) (hn16 : B.1 ≤ 16) (hlv : lv ≤ 10) : MI l y_TD_remove b_TD_remove 3 .boolean 2 D cI [.ref (q 0), .int x, .int v] [((q 0), .inr (0, [.ref (q 1), .ref (q 2), .ref (q 3), .ref (q 10), .ref (q 13), .int (nI cnt)])), ((q 1), .inl (cI, 8, .inl dm)), ((q 2), .inl (cI, 8, .inl db)), ((q 3), .inr (2, [.ref (q 4), .int (nI (B.1)), .ref (q 5), .ref (q 6), .ref (q 7)])), ((q 4), .inr (1, [.ref (q 8), .ref (q 9)])), ((q 5), .inl (cI, 16, .inl B.kd)), ((q 6), .inl (cI, 48, .inl B.mb)), ((q 7), .inl (cI, 16, .inl B.nu)), ((q 8), .inl (cI, 144, .inl mt)), ((q 9), .inl (cI, 4, .inl B.sz)), ((q 10), .inr (3, [.int (nI lv), .ref (q 11), .ref (q 12)])), ((q 11), .inl (cI, 80, .inl od)), ((q 12), .inl (cI, 10, .inl om)), ((q 13), .inr (4, [.int (bP (U)), .int (nI p - 1), .int vi, .int fa, .int so, .ref (q 14), .ref (q 15), .ref (q 16), .int (bP (V))])), ((q 14), .inl (cI, 80, .inl dr)), ((q 15), .inl (cI, 9, .inl br)), ((q 16), .inl (cI, 9, .inl un))] (fun r u => ((¬ U ∧ ∃ xx vv, xx < cnt ∧ vv < 16 ∧ x = nI xx ∧ v = nI vv ∧ bt (dm xx) vv = true ∧ 1 < pcn (dm xx)) ∧ r = 1 ∧ ∃ xx vv, xx < cnt ∧ vv < 16 ∧ x = nI xx ∧ v = nI vv ∧ u = [((q 0), .inr (0, [.ref (q 1), .ref (q 2), .ref (q 3), .ref (q 10), .ref (q 13), .int (nI cnt)])), ((q 1), .inl (cI, 8, .inl (upd dm xx (dm xx ^^^ (nI 1 <<< (nI vv &&& 31)))))), ((q 2), .inl (cI, 8, .inl db)), ((q 3), .inr (2, [.ref (q 4), .int (nI (B.1)), .ref (q 5), .ref (q 6), .ref (q 7)])), ((q 4), .inr (1, [.ref (q 8), .ref (q 9)])), ((q 5), .inl (cI, 16, .inl B.kd)), ((q 6), .inl (cI, 48, .inl B.mb)), ((q 7), .inl (cI, 16, .inl B.nu)), ((q 8), .inl (cI, 144, .inl mt)), ((q 9), .inl (cI, 4, .inl B.sz)), ((q 10), .inr (3, [.int (nI lv), .ref (q 11), .ref (q 12)])), ((q 11), .inl (cI, 80, .inl od)), ((q 12), .inl (cI, 10, .inl om)), ((q 13), .inr (4, [.int (bP (U)), .int (nI p - 1), .int vi, .int fa, .int so, .ref (q 14), .ref (q 15), .ref (q 16), .int (bP (V))])), ((q 14), .inl (cI, 80, .inl dr)), ((q 15), .inl (cI, 9, .inl br)), ((q 16), .inl (cI, 9, .inl un))]) ∨ (¬ (¬ U ∧ ∃ xx vv, xx < cnt ∧ vv < 16 ∧ x = nI xx ∧ v = nI vv ∧ bt (dm xx) vv = true ∧ 1 < pcn (dm xx)) ∧ r = 0 ∧ u = [((q 0), .inr (0, [.ref (q 1), .ref (q 2), .ref (q 3), .ref (q 10), .ref (q 13), .int (nI cnt)])), ((q 1), .inl (cI, 8, .inl dm)), ((q 2), .inl (cI, 8, .inl db)), ((q 3), .inr (2, [.ref (q 4), .int (nI (B.1)), .ref (q 5), .ref (q 6), .ref (q 7)])), ((q 4), .inr (1, [.ref (q 8), .ref (q 9)])), ((q 5), .inl (cI, 16, .inl B.kd)), ((q 6), .inl (cI, 48, .inl B.mb)), ((q 7), .inl (cI, 16, .inl B.nu)), ((q 8), .inl (cI, 144, .inl mt)), ((q 9), .inl (cI, 4, .inl B.sz)), ((q 10), .inr (3, [.int (nI lv), .ref (q 11), .ref (q 12)])), ((q 11), .inl (cI, 80, .inl od)), ((q 12), .inl (cI, 10, .inl om)), ((q 13), .inr (4, [.int (bP (U)), .int (nI p - 1), .int vi, .int fa, .int so, .ref (q 14), .ref (q 15), .ref (q 16), .int (bP (V))])), ((q 14), .inl (cI, 80, .inl dr)), ((q 15), .inl (cI, 9, .inl br)), ((q 16), .inl (cI, 9, .inl un))])) := by
  refine MI.of (by decide) (Nat.le_of_ble_eq_true rfl) ?_
  intro zp ze zs zm zb zt zc ls A X hrt hlk G hl
  have hx := X.1
  have hb := X.2.1
  have hl : lv_has ls 3 [(0, .ref (q 0)), (1, .int x), (2, .int v)] := hl
  refine lv_aload_n hx hb d_TD_remove_0 rfl (lv_at hl 0 rfl) ?_
  refine gf_TD_33 X G 0 rfl rfl d_TD_remove_1 ?_
  refine gf_TD_82 X G 13 rfl rfl d_TD_remove_4 ?_
  refine zb_ne hx hb d_TD_remove_7 rfl (fun h7 => ?_) (fun h7 => ?_)
  · skip
    refine lv_iconst (v := (nI 0)) hx hb d_TD_remove_43 (by decide) ?_
    exact z_ret X hrt hlk G (rfl) (Or.inr ⟨by first | exact fun h9 => h9.1 h7 | (rintro ⟨_, x9, v9, hx9, hv9, ex9, ev9, b9, o9⟩; first | exact h15 (by rw [ex9, nI_toInt (by omega)]; omega) | (have e8 : x9 = xx := (nI_eq (by omega) (by omega)).mp (ex9.symm.trans hxx); subst e8; first | exact h28 ⟨v9, hv9, ev9, b9⟩ | exact h40 o9)), rfl, rfl⟩) d_TD_remove_44
  · skip
    refine lv_aload_n hx hb d_TD_remove_10 rfl (lv_at hl 0 rfl) ?_
    refine lv_iload_n hx hb d_TD_remove_11 rfl (lv_at hl 1 rfl) ?_
    refine zV_R X G (c_isVariable l D cI q cnt x (by omega)) lk_TD_86 [0] rfl (by decide) 0 rfl rfl ⟨by decide, by decide⟩ ⟨Nat.zero_le _, Nat.zero_le _⟩ hl.1 rfl (Nat.le_of_ble_eq_true rfl) d_TD_remove_12 (fun H locs G => ?_)
    refine zb_eq hx hb d_TD_remove_15 rfl (fun h15 => ?_) (fun h15 => ?_)
    · skip
      refine lv_iconst (v := (nI 0)) hx hb d_TD_remove_43 (by decide) ?_
      exact z_ret X hrt hlk G (rfl) (Or.inr ⟨by first | exact fun h9 => h9.1 h7 | (rintro ⟨_, x9, v9, hx9, hv9, ex9, ev9, b9, o9⟩; first | exact h15 (by rw [ex9, nI_toInt (by omega)]; omega) | (have e8 : x9 = xx := (nI_eq (by omega) (by omega)).mp (ex9.symm.trans hxx); subst e8; first | exact h28 ⟨v9, hv9, ev9, b9⟩ | exact h40 o9)), rfl, rfl⟩) d_TD_remove_44
    · skip
      obtain ⟨xx, hxc, hxx⟩ := nI_ex (k := cnt) h15.1 h15.2 (by omega)
      rw [hxx] at hl
      have hlo := hD.lo xx
      refine lv_aload_n hx hb d_TD_remove_18 rfl (lv_at hl 0 rfl) ?_
      refine gf_TD_9 X G 0 rfl rfl d_TD_remove_19 ?_
      refine lv_iload_n hx hb d_TD_remove_22 rfl (lv_at hl 1 rfl) ?_
      refine z_iald X G 1 rfl xx (rfl) (by omega) (by decide) d_TD_remove_23 ?_
      refine lv_iload_n hx hb d_TD_remove_24 rfl (lv_at hl 2 rfl) ?_
      refine zS_R X G (c_has l D cI (dm xx) v) lk_TD_89 [] rfl (by decide) ⟨by decide, by decide⟩ ⟨Nat.zero_le _, Nat.zero_le _⟩ hl.1 rfl (Nat.le_of_ble_eq_true rfl) d_TD_remove_25 (fun H locs G => ?_)
      refine zb_eq hx hb d_TD_remove_28 rfl (fun h28 => ?_) (fun h28 => ?_)
      · skip
        refine lv_iconst (v := (nI 0)) hx hb d_TD_remove_43 (by decide) ?_
        exact z_ret X hrt hlk G (rfl) (Or.inr ⟨by first | exact fun h9 => h9.1 h7 | (rintro ⟨_, x9, v9, hx9, hv9, ex9, ev9, b9, o9⟩; first | exact h15 (by rw [ex9, nI_toInt (by omega)]; omega) | (have e8 : x9 = xx := (nI_eq (by omega) (by omega)).mp (ex9.symm.trans hxx); subst e8; first | exact h28 ⟨v9, hv9, ev9, b9⟩ | exact h40 o9)), rfl, rfl⟩) d_TD_remove_44
      · skip
        obtain ⟨vv, hv16, hvv, hbt⟩ := h28
        rw [hvv] at hl
        refine lv_aload_n hx hb d_TD_remove_31 rfl (lv_at hl 0 rfl) ?_
        refine gf_TD_9 X G 0 rfl rfl d_TD_remove_32 ?_
        refine lv_iload_n hx hb d_TD_remove_35 rfl (lv_at hl 1 rfl) ?_
        refine z_iald X G 1 rfl xx (rfl) (by omega) (by decide) d_TD_remove_36 ?_
        refine zS_R X G (c_isOpen l D cI (dm xx) (by assumption)) lk_TD_93 [] rfl (by decide) ⟨by decide, by decide⟩ ⟨Nat.zero_le _, Nat.zero_le _⟩ hl.1 rfl (Nat.le_of_ble_eq_true rfl) d_TD_remove_37 (fun H locs G => ?_)
        refine zb_ne hx hb d_TD_remove_40 rfl (fun h40 => ?_) (fun h40 => ?_)
        · skip
          refine lv_aload_n hx hb d_TD_remove_45 rfl (lv_at hl 0 rfl) ?_
          refine gf_TD_9 X G 0 rfl rfl d_TD_remove_46 ?_
          refine lv_iload_n hx hb d_TD_remove_49 rfl (lv_at hl 1 rfl) ?_
          refine lv_dup2_11 hx hb d_TD_remove_50 rfl rfl ?_
          refine z_iald X G 1 rfl xx (rfl) (by omega) (by decide) d_TD_remove_51 ?_
          refine lv_iconst (v := (nI 1)) hx hb d_TD_remove_52 (by decide) ?_
          refine lv_iload_n hx hb d_TD_remove_53 rfl (lv_at hl 2 rfl) ?_
          refine lv_ishl hx hb d_TD_remove_54 ?_
          refine lv_ixor hx hb d_TD_remove_55 ?_
          refine z_iast X G 1 rfl xx (rfl) (by omega) (by decide) d_TD_remove_56 (fun H locs G => ?_)
          have G : Gw D A zs.heap H locs [((q 0), .inr (0, [.ref (q 1), .ref (q 2), .ref (q 3), .ref (q 10), .ref (q 13), .int (nI cnt)])), ((q 1), .inl (cI, 8, .inl (upd dm xx ((dm xx) ^^^ ((nI 1) <<< ((nI vv) &&& 31)))))), ((q 2), .inl (cI, 8, .inl db)), ((q 3), .inr (2, [.ref (q 4), .int (nI (B.1)), .ref (q 5), .ref (q 6), .ref (q 7)])), ((q 4), .inr (1, [.ref (q 8), .ref (q 9)])), ((q 5), .inl (cI, 16, .inl B.kd)), ((q 6), .inl (cI, 48, .inl B.mb)), ((q 7), .inl (cI, 16, .inl B.nu)), ((q 8), .inl (cI, 144, .inl mt)), ((q 9), .inl (cI, 4, .inl B.sz)), ((q 10), .inr (3, [.int (nI lv), .ref (q 11), .ref (q 12)])), ((q 11), .inl (cI, 80, .inl od)), ((q 12), .inl (cI, 10, .inl om)), ((q 13), .inr (4, [.int (bP (U)), .int (nI p - 1), .int vi, .int fa, .int so, .ref (q 14), .ref (q 15), .ref (q 16), .int (bP (V))])), ((q 14), .inl (cI, 80, .inl dr)), ((q 15), .inl (cI, 9, .inl br)), ((q 16), .inl (cI, 9, .inl un))] := G
          refine lv_iconst (v := (nI 1)) hx hb d_TD_remove_57 (by decide) ?_
          exact z_ret X hrt hlk G (rfl) (Or.inl ⟨⟨h7, xx, vv, hxc, hv16, hxx, hvv, hbt, h40⟩, rfl, xx, vv, hxc, hv16, hxx, hvv, rfl⟩) d_TD_remove_58
        · skip
          refine lv_iconst (v := (nI 0)) hx hb d_TD_remove_43 (by decide) ?_
          exact z_ret X hrt hlk G (rfl) (Or.inr ⟨by first | exact fun h9 => h9.1 h7 | (rintro ⟨_, x9, v9, hx9, hv9, ex9, ev9, b9, o9⟩; first | exact h15 (by rw [ex9, nI_toInt (by omega)]; omega) | (have e8 : x9 = xx := (nI_eq (by omega) (by omega)).mp (ex9.symm.trans hxx); subst e8; first | exact h28 ⟨v9, hv9, ev9, b9⟩ | exact h40 o9)), rfl, rfl⟩) d_TD_remove_44
