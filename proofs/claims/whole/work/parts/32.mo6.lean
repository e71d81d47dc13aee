set_option maxHeartbeats 4000000 in
set_option maxRecDepth 100000 in
theorem m_following (l : Launch) (D : va_G) (cI : ClassId) (o : Nat → Nat) (cnt lv : Nat) (B : Bk) (dm od om be ke ch tr : Nat → Int32) (U V : Prop) (vi fa so : Int32) (hB : BOk cnt B) (dd : Nat) (Rw : Nat → Int32) (hdd : dd ≤ 8) (hz8 : ∀ x, 8 ≤ x → dm x = 0) (hbe : DOk cnt (rwf be 0)) (hct : ∀ i, i < dd → ∃ x v, x < cnt ∧ v < 16 ∧ ch i = nI x ∧ tr i = nI v) (hIs : IsClo cnt B (cutn be ch tr dd) Rw) (ht0 : -1 ≤ (tr dd).toInt) (ht16 : (tr dd).toInt < 16) (hch : ch dd = -1 ∨ ∃ x, x < cnt ∧ ch dd = nI x) : MI l y_MO_following b_MO_following 3 .int 6 D cI [.ref (o 0)] [((o 0), .inr (5, [.int (nI cnt), .int (nI (B.1)), .int (nI lv), .ref (o 1), .ref (o 2), .ref (o 3), .ref (o 4), .ref (o 5), .ref (o 6), .ref (o 7), .ref (o 8), .int (bP (U)), .int (bP (V)), .int (nI dd), .int vi, .int fa, .int so, .ref (o 9), .ref (o 10), .ref (o 11), .ref (o 12)])), ((o 1), .inl (cI, 8, .inl dm)), ((o 2), .inl (cI, 16, .inl B.kd)), ((o 3), .inl (cI, 48, .inl B.mb)), ((o 4), .inl (cI, 16, .inl B.nu)), ((o 5), .inl (cI, 4, .inl B.sz)), ((o 6), .inl (cI, 144, .inl B.en)), ((o 7), .inl (cI, 80, .inl od)), ((o 8), .inl (cI, 10, .inl om)), ((o 9), .inl (cI, 8, .inl be)), ((o 10), .inl (cI, 8, .inl ke)), ((o 11), .inl (cI, 9, .inl ch)), ((o 12), .inl (cI, 9, .inl tr))] (fun r u => u = [((o 0), .inr (5, [.int (nI cnt), .int (nI (B.1)), .int (nI lv), .ref (o 1), .ref (o 2), .ref (o 3), .ref (o 4), .ref (o 5), .ref (o 6), .ref (o 7), .ref (o 8), .int (bP (U)), .int (bP (V)), .int (nI dd), .int vi, .int fa, .int so, .ref (o 9), .ref (o 10), .ref (o 11), .ref (o 12)])), ((o 1), .inl (cI, 8, .inl Rw)), ((o 2), .inl (cI, 16, .inl B.kd)), ((o 3), .inl (cI, 48, .inl B.mb)), ((o 4), .inl (cI, 16, .inl B.nu)), ((o 5), .inl (cI, 4, .inl B.sz)), ((o 6), .inl (cI, 144, .inl B.en)), ((o 7), .inl (cI, 80, .inl od)), ((o 8), .inl (cI, 10, .inl om)), ((o 9), .inl (cI, 8, .inl be)), ((o 10), .inl (cI, 8, .inl ke)), ((o 11), .inl (cI, 9, .inl ch)), ((o 12), .inl (cI, 9, .inl tr))] ∧ ∃ v, v ≤ 16 ∧ r = nI v ∧ (tr dd).toInt < v ∧ (∀ w : Nat, (tr dd).toInt < w → w < v → ¬ hsR cnt (ch dd) Rw w) ∧ (v < 16 → hsR cnt (ch dd) Rw v)) := by
  refine MI.of (by decide) (Nat.le_of_ble_eq_true rfl) ?_
  intro zp ze zs zm zb zt zc ls A X hrt hlk G hl
  have hx := X.1
  have hb := X.2.1
  have hl : lv_has ls 3 [(0, .ref (o 0))] := hl
  have hc8 := hB.1
  have hn16 := hB.2.1
  obtain ⟨tv, htv16, htve, htvi⟩ := tv_ex ht0 ht16
  refine lv_aload_n hx hb d_MO_following_0 rfl (lv_at hl 0 rfl) ?_
  refine lv_aload_n hx hb d_MO_following_1 rfl (lv_at hl 0 rfl) ?_
  refine gf_MO_105 X G 0 rfl rfl d_MO_following_2 ?_
  refine zV_I (wr := []) X G (m_node l D cI o cnt lv B dm od om be ke ch tr U V (nI dd) vi fa so hB dd (by omega) hz8 hbe hct) lk_MO_127 [0, 1, 2, 3, 4, 5, 6, 7, 8, 9, 10, 11, 12] rfl (by decide) [] rfl (by decide) (by decide) 0 rfl rfl ⟨by decide, by decide⟩ ⟨Nat.zero_le _, Nat.zero_le _⟩ hl.1 rfl (Nat.le_of_ble_eq_true rfl) d_MO_following_5 (fun r5 u H locs q5 G => ?_)
  obtain ⟨E, rfl, q5⟩ := q5
  have G : Gw D A zs.heap H locs [((o 0), .inr (5, [.int (nI cnt), .int (nI (B.1)), .int (nI lv), .ref (o 1), .ref (o 2), .ref (o 3), .ref (o 4), .ref (o 5), .ref (o 6), .ref (o 7), .ref (o 8), .int (bP (U)), .int (bP (V)), .int (nI dd), .int vi, .int fa, .int so, .ref (o 9), .ref (o 10), .ref (o 11), .ref (o 12)])), ((o 1), .inl (cI, 8, .inl E)), ((o 2), .inl (cI, 16, .inl B.kd)), ((o 3), .inl (cI, 48, .inl B.mb)), ((o 4), .inl (cI, 16, .inl B.nu)), ((o 5), .inl (cI, 4, .inl B.sz)), ((o 6), .inl (cI, 144, .inl B.en)), ((o 7), .inl (cI, 80, .inl od)), ((o 8), .inl (cI, 10, .inl om)), ((o 9), .inl (cI, 8, .inl be)), ((o 10), .inl (cI, 8, .inl ke)), ((o 11), .inl (cI, 9, .inl ch)), ((o 12), .inl (cI, 9, .inl tr))] := G.sub [0, 1, 2, 3, 4, 5, 6, 7, 8, 9, 10, 11, 12] (by decide) rfl
  obtain ⟨hr1, hE⟩ := clo_dec hIs q5
  rw [hE] at G
  refine lv_istore_n hx hb d_MO_following_8 rfl hl (by decide) rfl (fun ls hl => ?_)
  have hl : lv_has ls 3 [(1, .int r5), (0, .ref (o 0))] := hl
  refine lv_aload_n hx hb d_MO_following_9 rfl (lv_at hl 1 rfl) ?_
  refine gf_MO_43 X G 0 rfl rfl d_MO_following_10 ?_
  refine lv_aload_n hx hb d_MO_following_13 rfl (lv_at hl 1 rfl) ?_
  refine gf_MO_105 X G 0 rfl rfl d_MO_following_14 ?_
  refine z_iald X G 12 rfl dd (rfl) (by omega) (by decide) d_MO_following_17 ?_
  refine lv_iconst (v := (nI 1)) hx hb d_MO_following_18 (by decide) ?_
  refine lv_iadd hx hb d_MO_following_19 ?_
  refine z_top (nI tv) (htve) ?_
  refine lv_istore_n hx hb d_MO_following_20 rfl hl (by decide) rfl (fun ls hl => ?_)
  have hl : lv_has ls 3 [(2, .int (nI tv)), (1, .int r5), (0, .ref (o 0))] := hl
  have lp : ∀ (fu : Nat) (v : Nat) (hv : v ≤ 16) (hvt : tv ≤ v) (hno : ∀ w : Nat, (tr dd).toInt < w → w < v → ¬ hsR cnt (ch dd) Rw w) (hfu : 16 - v < fu) (H : Heap) (locs : List Loc) (ls : Array Slot), Gw D A zs.heap H locs [((o 0), .inr (5, [.int (nI cnt), .int (nI (B.1)), .int (nI lv), .ref (o 1), .ref (o 2), .ref (o 3), .ref (o 4), .ref (o 5), .ref (o 6), .ref (o 7), .ref (o 8), .int (bP (U)), .int (bP (V)), .int (nI dd), .int vi, .int fa, .int so, .ref (o 9), .ref (o 10), .ref (o 11), .ref (o 12)])), ((o 1), .inl (cI, 8, .inl Rw)), ((o 2), .inl (cI, 16, .inl B.kd)), ((o 3), .inl (cI, 48, .inl B.mb)), ((o 4), .inl (cI, 16, .inl B.nu)), ((o 5), .inl (cI, 4, .inl B.sz)), ((o 6), .inl (cI, 144, .inl B.en)), ((o 7), .inl (cI, 80, .inl od)), ((o 8), .inl (cI, 10, .inl om)), ((o 9), .inl (cI, 8, .inl be)), ((o 10), .inl (cI, 8, .inl ke)), ((o 11), .inl (cI, 9, .inl ch)), ((o 12), .inl (cI, 9, .inl tr))] → lv_has ls 3 [(2, .int (nI v)), (1, .int r5), (0, .ref (o 0))] → W zp l ze (zr 6) zs zm ([.ref (o 0)] : List Value).toArray zb zt zc H locs 0 0 (ZI D zb ([.ref (o 0)] : List Value) zs A (fun r u => u = [((o 0), .inr (5, [.int (nI cnt), .int (nI (B.1)), .int (nI lv), .ref (o 1), .ref (o 2), .ref (o 3), .ref (o 4), .ref (o 5), .ref (o 6), .ref (o 7), .ref (o 8), .int (bP (U)), .int (bP (V)), .int (nI dd), .int vi, .int fa, .int so, .ref (o 9), .ref (o 10), .ref (o 11), .ref (o 12)])), ((o 1), .inl (cI, 8, .inl Rw)), ((o 2), .inl (cI, 16, .inl B.kd)), ((o 3), .inl (cI, 48, .inl B.mb)), ((o 4), .inl (cI, 16, .inl B.nu)), ((o 5), .inl (cI, 4, .inl B.sz)), ((o 6), .inl (cI, 144, .inl B.en)), ((o 7), .inl (cI, 80, .inl od)), ((o 8), .inl (cI, 10, .inl om)), ((o 9), .inl (cI, 8, .inl be)), ((o 10), .inl (cI, 8, .inl ke)), ((o 11), .inl (cI, 9, .inl ch)), ((o 12), .inl (cI, 9, .inl tr))] ∧ ∃ v, v ≤ 16 ∧ r = nI v ∧ (tr dd).toInt < v ∧ (∀ w : Nat, (tr dd).toInt < w → w < v → ¬ hsR cnt (ch dd) Rw w) ∧ (v < 16 → hsR cnt (ch dd) Rw v))) (F0 zm 21 ls []) := by
    intro fu
    induction fu with
    | zero => intro v hv hvt hno hfu; exact absurd hfu (Nat.not_lt_zero _)
    | succ fu lp =>
      intro v hv hvt hno hfu H locs ls G hl
      refine lv_iload_n hx hb d_MO_following_21 rfl (lv_at hl 0 rfl) ?_
      refine lv_bipush (v := (nI 16)) hx hb d_MO_following_22 (by decide) ?_
      refine zi_icmp_ge hx hb d_MO_following_24 rfl (nI_toInt (by omega) : (nI v).toInt = ((v : Nat) : Int)) (by decide : (nI 16).toInt = 16) (fun h24 => ?_) (fun h24 => ?_)
      · skip
        refine lv_iload_n hx hb d_MO_following_66 rfl (lv_at hl 0 rfl) ?_
        exact z_ret X hrt hlk G (rfl) (⟨rfl, v, hv, rfl, by omega, hno, by first | exact fun _ => ⟨x, hxc, hcx, h57⟩ | exact fun h9 => absurd h9 (by omega)⟩) d_MO_following_67
      · skip
        refine lv_iload_n hx hb d_MO_following_27 rfl (lv_at hl 1 rfl) ?_
        refine zi_if_eq hx hb d_MO_following_28 rfl rfl (fun h28 => ?_) (fun h28 => ?_)
        · (rw [hr1] at h28; exact absurd h28 (by decide))
        · skip
          refine lv_aload_n hx hb d_MO_following_31 rfl (lv_at hl 2 rfl) ?_
          refine gf_MO_40 X G 0 rfl rfl d_MO_following_32 ?_
          refine lv_aload_n hx hb d_MO_following_35 rfl (lv_at hl 2 rfl) ?_
          refine gf_MO_105 X G 0 rfl rfl d_MO_following_36 ?_
          refine z_iald X G 11 rfl dd (rfl) (by omega) (by decide) d_MO_following_39 ?_
          refine zi_if_lt hx hb d_MO_following_40 rfl rfl (fun h40 => ?_) (fun h40 => ?_)
          · skip
            have hz : ¬ hsR cnt (ch dd) Rw v := fun ⟨x9, g1, g2, _⟩ => by rw [g2, nI_toInt (by omega)] at h40; omega
            refine lv_iinc (v := (nI (v + 1))) hx hb d_MO_following_60 hl (k := 0) rfl (nI_1 v) (by decide) rfl (fun ls hl => ?_)
            have hl : lv_has ls 3 [(2, .int (nI (v + 1))), (1, .int r5), (0, .ref (o 0))] := hl
            refine lv_goto hx hb d_MO_following_63 rfl ?_
            have hl : lv_has ls 3 [(2, .int (nI (v + 1))), (1, .int r5), (0, .ref (o 0))] := lv_sub hl [0, 1, 2] rfl
            exact lp (v + 1) (by omega) (by omega) (fun w g1 g2 => by rcases (by omega : w < v ∨ w = v) with g3 | g3; exact hno w g1 g3; rw [g3]; exact hz) (by omega) _ _ _ G hl
          · skip
            obtain ⟨x, hxc, hcx⟩ : ∃ x, x < cnt ∧ ch dd = nI x := hch.resolve_left (fun h9 => by rw [h9, nI_neg1] at h40; omega)
            refine lv_aload_n hx hb d_MO_following_43 rfl (lv_at hl 2 rfl) ?_
            refine lv_aload_n hx hb d_MO_following_44 rfl (lv_at hl 2 rfl) ?_
            refine gf_MO_40 X G 0 rfl rfl d_MO_following_45 ?_
            refine lv_aload_n hx hb d_MO_following_48 rfl (lv_at hl 2 rfl) ?_
            refine gf_MO_105 X G 0 rfl rfl d_MO_following_49 ?_
            refine z_iald X G 11 rfl dd (rfl) (by omega) (by decide) d_MO_following_52 ?_
            refine z_top (nI x) (hcx) ?_
            refine lv_iload_n hx hb d_MO_following_53 rfl (lv_at hl 0 rfl) ?_
            refine zV_R X G (m_has l D cI o cnt lv B Rw od om be ke ch tr U V (nI dd) vi fa so x v (by omega) (by omega)) lk_MO_73 [0, 1, 2, 3, 4, 5, 6, 7, 8, 9, 10, 11, 12] rfl (by decide) 0 rfl rfl ⟨by decide, by decide⟩ ⟨Nat.zero_le _, Nat.zero_le _⟩ hl.1 rfl (Nat.le_of_ble_eq_true rfl) d_MO_following_54 (fun H locs G => ?_)
            refine zb_ne hx hb d_MO_following_57 rfl (fun h57 => ?_) (fun h57 => ?_)
            · skip
              refine lv_iload_n hx hb d_MO_following_66 rfl (lv_at hl 0 rfl) ?_
              exact z_ret X hrt hlk G (rfl) (⟨rfl, v, hv, rfl, by omega, hno, by first | exact fun _ => ⟨x, hxc, hcx, h57⟩ | exact fun h9 => absurd h9 (by omega)⟩) d_MO_following_67
            · skip
              have hz : ¬ hsR cnt (ch dd) Rw v := fun ⟨x9, g1, g2, g3⟩ => h57 (by rw [← (nI_eq (by omega) (by omega)).mp (g2.symm.trans hcx)]; exact g3)
              refine lv_iinc (v := (nI (v + 1))) hx hb d_MO_following_60 hl (k := 0) rfl (nI_1 v) (by decide) rfl (fun ls hl => ?_)
              have hl : lv_has ls 3 [(2, .int (nI (v + 1))), (1, .int r5), (0, .ref (o 0))] := hl
              refine lv_goto hx hb d_MO_following_63 rfl ?_
              have hl : lv_has ls 3 [(2, .int (nI (v + 1))), (1, .int r5), (0, .ref (o 0))] := lv_sub hl [0, 1, 2] rfl
              exact lp (v + 1) (by omega) (by omega) (fun w g1 g2 => by rcases (by omega : w < v ∨ w = v) with g3 | g3; exact hno w g1 g3; rw [g3]; exact hz) (by omega) _ _ _ G hl
  have hl : lv_has ls 3 [(2, .int (nI tv)), (1, .int r5), (0, .ref (o 0))] := lv_sub hl [0, 1, 2] rfl
  exact lp _ tv htv16 (Nat.le_refl _) (fun w g1 g2 => by omega) (Nat.lt_succ_self _) _ _ _ G hl
set_option maxHeartbeats 4000000 in
set_option maxRecDepth 100000 in
theorem m_root (l : Launch) (D : va_G) (cI : ClassId) (o : Nat → Nat) (cnt lv : Nat) (B : Bk) (dm od om be ke ch tr : Nat → Int32) (U V : Prop) (de vi fa so : Int32) (hB : BOk cnt B) (dr br un : Nat → Int32) (hD : DOk cnt dm) (hdm : dm = rwf dr 0) (hR : MRl cnt B 0 dr br un be ch tr) (hde : de = nI 0 - 1) : MI l y_MO_root b_MO_root 1 .int 6 D cI [.ref (o 0)] [((o 0), .inr (5, [.int (nI cnt), .int (nI (B.1)), .int (nI lv), .ref (o 1), .ref (o 2), .ref (o 3), .ref (o 4), .ref (o 5), .ref (o 6), .ref (o 7), .ref (o 8), .int (bP (U)), .int (bP (V)), .int de, .int vi, .int fa, .int so, .ref (o 9), .ref (o 10), .ref (o 11), .ref (o 12)])), ((o 1), .inl (cI, 8, .inl dm)), ((o 2), .inl (cI, 16, .inl B.kd)), ((o 3), .inl (cI, 48, .inl B.mb)), ((o 4), .inl (cI, 16, .inl B.nu)), ((o 5), .inl (cI, 4, .inl B.sz)), ((o 6), .inl (cI, 144, .inl B.en)), ((o 7), .inl (cI, 80, .inl od)), ((o 8), .inl (cI, 10, .inl om)), ((o 9), .inl (cI, 8, .inl be)), ((o 10), .inl (cI, 8, .inl ke)), ((o 11), .inl (cI, 9, .inl ch)), ((o 12), .inl (cI, 9, .inl tr))] (fun r u => ∃ rr p2 vi2 fa2 so2 dr2 br2 un2 dm2 ch2 tr2, Vis cnt B 0 vi fa so dr br un dm rr p2 vi2 fa2 so2 dr2 br2 un2 dm2 ∧ MRl cnt B p2 dr2 br2 un2 be ch2 tr2 ∧ r = nI (if rr = 1 then 2 else 1) ∧ u = [((o 0), .inr (5, [.int (nI cnt), .int (nI (B.1)), .int (nI lv), .ref (o 1), .ref (o 2), .ref (o 3), .ref (o 4), .ref (o 5), .ref (o 6), .ref (o 7), .ref (o 8), .int (bP (U)), .int (bP (True)), .int (nI p2 - 1), .int vi2, .int fa2, .int so2, .ref (o 9), .ref (o 10), .ref (o 11), .ref (o 12)])), ((o 1), .inl (cI, 8, .inl dm2)), ((o 2), .inl (cI, 16, .inl B.kd)), ((o 3), .inl (cI, 48, .inl B.mb)), ((o 4), .inl (cI, 16, .inl B.nu)), ((o 5), .inl (cI, 4, .inl B.sz)), ((o 6), .inl (cI, 144, .inl B.en)), ((o 7), .inl (cI, 80, .inl od)), ((o 8), .inl (cI, 10, .inl om)), ((o 9), .inl (cI, 8, .inl be)), ((o 10), .inl (cI, 8, .inl ke)), ((o 11), .inl (cI, 9, .inl ch2)), ((o 12), .inl (cI, 9, .inl tr2))]) := by
  refine MI.of (by decide) (Nat.le_of_ble_eq_true rfl) ?_
  intro zp ze zs zm zb zt zc ls A X hrt hlk G hl
  have hx := X.1
  have hb := X.2.1
  have hl : lv_has ls 1 [(0, .ref (o 0))] := hl
  have hc8 := hB.1
  have hn16 := hB.2.1
  have hz8 : ∀ x, 8 ≤ x → dm x = 0 := fun x h9 => hD.2 x (by omega)
  have hb0 : rwf be 0 = dm := by rw [mrl_be hR.1, hdm]
  have hbe : DOk cnt (rwf be 0) := by rw [hb0]; exact hD
  have hc0 : cutn be ch tr 0 = dm := hb0
  refine lv_aload_n hx hb d_MO_root_0 rfl (lv_at hl 0 rfl) ?_
  refine lv_iconst (v := (nI 1)) hx hb d_MO_root_1 (by decide) ?_
  refine z_top (bP (True)) (bP_1 trivial) ?_
  refine pf_MO_102 X G 0 rfl (bP_n _) (bP_fit _) (Nat.le_of_ble_eq_true rfl) d_MO_root_2 (fun H locs G => ?_)
  have G : Gw D A zs.heap H locs [((o 0), .inr (5, [.int (nI cnt), .int (nI (B.1)), .int (nI lv), .ref (o 1), .ref (o 2), .ref (o 3), .ref (o 4), .ref (o 5), .ref (o 6), .ref (o 7), .ref (o 8), .int (bP (U)), .int (bP (True)), .int de, .int vi, .int fa, .int so, .ref (o 9), .ref (o 10), .ref (o 11), .ref (o 12)])), ((o 1), .inl (cI, 8, .inl dm)), ((o 2), .inl (cI, 16, .inl B.kd)), ((o 3), .inl (cI, 48, .inl B.mb)), ((o 4), .inl (cI, 16, .inl B.nu)), ((o 5), .inl (cI, 4, .inl B.sz)), ((o 6), .inl (cI, 144, .inl B.en)), ((o 7), .inl (cI, 80, .inl od)), ((o 8), .inl (cI, 10, .inl om)), ((o 9), .inl (cI, 8, .inl be)), ((o 10), .inl (cI, 8, .inl ke)), ((o 11), .inl (cI, 9, .inl ch)), ((o 12), .inl (cI, 9, .inl tr))] := G
  refine lv_aload_n hx hb d_MO_root_5 rfl (lv_at hl 0 rfl) ?_
  refine lv_dup hx hb d_MO_root_6 rfl ?_
  refine gf_MO_108 X G 0 rfl rfl d_MO_root_7 ?_
  refine lv_iconst (v := (nI 1)) hx hb d_MO_root_10 (by decide) ?_
  refine lv_iadd hx hb d_MO_root_11 ?_
  refine pf_MO_108 X G 0 rfl (rfl) (rfl) (Nat.le_of_ble_eq_true rfl) d_MO_root_12 (fun H locs G => ?_)
  have G : Gw D A zs.heap H locs [((o 0), .inr (5, [.int (nI cnt), .int (nI (B.1)), .int (nI lv), .ref (o 1), .ref (o 2), .ref (o 3), .ref (o 4), .ref (o 5), .ref (o 6), .ref (o 7), .ref (o 8), .int (bP (U)), .int (bP (True)), .int de, .int (vi + (nI 1)), .int fa, .int so, .ref (o 9), .ref (o 10), .ref (o 11), .ref (o 12)])), ((o 1), .inl (cI, 8, .inl dm)), ((o 2), .inl (cI, 16, .inl B.kd)), ((o 3), .inl (cI, 48, .inl B.mb)), ((o 4), .inl (cI, 16, .inl B.nu)), ((o 5), .inl (cI, 4, .inl B.sz)), ((o 6), .inl (cI, 144, .inl B.en)), ((o 7), .inl (cI, 80, .inl od)), ((o 8), .inl (cI, 10, .inl om)), ((o 9), .inl (cI, 8, .inl be)), ((o 10), .inl (cI, 8, .inl ke)), ((o 11), .inl (cI, 9, .inl ch)), ((o 12), .inl (cI, 9, .inl tr))] := G
  refine lv_aload_n hx hb d_MO_root_15 rfl (lv_at hl 0 rfl) ?_
  refine lv_iconst (v := (nI 0)) hx hb d_MO_root_16 (by decide) ?_
  refine zV_I (wr := []) X G (m_node l D cI o cnt lv B dm od om be ke ch tr U True de (vi + nI 1) fa so hB 0 (by omega) hz8 hbe (fun i h9 => absurd h9 (Nat.not_lt_zero i))) lk_MO_127 [0, 1, 2, 3, 4, 5, 6, 7, 8, 9, 10, 11, 12] rfl (by decide) [] rfl (by decide) (by decide) 0 rfl rfl ⟨by decide, by decide⟩ ⟨Nat.zero_le _, Nat.zero_le _⟩ hl.1 rfl (Nat.le_of_ble_eq_true rfl) d_MO_root_17 (fun r17 u H locs q17 G => ?_)
  obtain ⟨E, rfl, q17⟩ := q17
  rw [hc0] at q17
  have G : Gw D A zs.heap H locs [((o 0), .inr (5, [.int (nI cnt), .int (nI (B.1)), .int (nI lv), .ref (o 1), .ref (o 2), .ref (o 3), .ref (o 4), .ref (o 5), .ref (o 6), .ref (o 7), .ref (o 8), .int (bP (U)), .int (bP (True)), .int de, .int (vi + nI 1), .int fa, .int so, .ref (o 9), .ref (o 10), .ref (o 11), .ref (o 12)])), ((o 1), .inl (cI, 8, .inl E)), ((o 2), .inl (cI, 16, .inl B.kd)), ((o 3), .inl (cI, 48, .inl B.mb)), ((o 4), .inl (cI, 16, .inl B.nu)), ((o 5), .inl (cI, 4, .inl B.sz)), ((o 6), .inl (cI, 144, .inl B.en)), ((o 7), .inl (cI, 80, .inl od)), ((o 8), .inl (cI, 10, .inl om)), ((o 9), .inl (cI, 8, .inl be)), ((o 10), .inl (cI, 8, .inl ke)), ((o 11), .inl (cI, 9, .inl ch)), ((o 12), .inl (cI, 9, .inl tr))] := G.sub [0, 1, 2, 3, 4, 5, 6, 7, 8, 9, 10, 11, 12] (by decide) rfl
  refine zi_if_eq hx hb d_MO_root_20 rfl rfl (fun h20 => ?_) (fun h20 => ?_)
  · skip
    obtain ⟨hr0, hE, hDE⟩ : r17 = 0 ∧ NoClo cnt B dm ∧ DOk cnt E := by
      rcases q17 with h9 | h9
      · rw [h9.1] at h20; exact absurd h20 (by decide)
      · exact h9
    refine lv_aload_n hx hb d_MO_root_33 rfl (lv_at hl 0 rfl) ?_
    refine lv_dup hx hb d_MO_root_34 rfl ?_
    refine gf_MO_111 X G 0 rfl rfl d_MO_root_35 ?_
    refine lv_iconst (v := (nI 1)) hx hb d_MO_root_38 (by decide) ?_
    refine lv_iadd hx hb d_MO_root_39 ?_
    refine pf_MO_111 X G 0 rfl (rfl) (rfl) (Nat.le_of_ble_eq_true rfl) d_MO_root_40 (fun H locs G => ?_)
    have G : Gw D A zs.heap H locs [((o 0), .inr (5, [.int (nI cnt), .int (nI (B.1)), .int (nI lv), .ref (o 1), .ref (o 2), .ref (o 3), .ref (o 4), .ref (o 5), .ref (o 6), .ref (o 7), .ref (o 8), .int (bP (U)), .int (bP (True)), .int de, .int (vi + nI 1), .int (fa + (nI 1)), .int so, .ref (o 9), .ref (o 10), .ref (o 11), .ref (o 12)])), ((o 1), .inl (cI, 8, .inl E)), ((o 2), .inl (cI, 16, .inl B.kd)), ((o 3), .inl (cI, 48, .inl B.mb)), ((o 4), .inl (cI, 16, .inl B.nu)), ((o 5), .inl (cI, 4, .inl B.sz)), ((o 6), .inl (cI, 144, .inl B.en)), ((o 7), .inl (cI, 80, .inl od)), ((o 8), .inl (cI, 10, .inl om)), ((o 9), .inl (cI, 8, .inl be)), ((o 10), .inl (cI, 8, .inl ke)), ((o 11), .inl (cI, 9, .inl ch)), ((o 12), .inl (cI, 9, .inl tr))] := G
    refine lv_aload_n hx hb d_MO_root_43 rfl (lv_at hl 0 rfl) ?_
    refine zV_W (wr := []) X G (m_restore l D cI o cnt lv B E od om be ke ch tr U True de (vi + nI 1) (fa + nI 1) so) lk_MO_120 [0, 1, 2, 3, 4, 5, 6, 7, 8, 9, 10, 11, 12] rfl (by decide) [] rfl (by decide) (by decide) 0 rfl rfl ⟨by decide, by decide⟩ ⟨Nat.zero_le _, Nat.zero_le _⟩ hl.1 rfl (Nat.le_of_ble_eq_true rfl) d_MO_root_44 (fun u H locs q44 G => ?_)
    subst q44
    have G : Gw D A zs.heap H locs [((o 0), .inr (5, [.int (nI cnt), .int (nI (B.1)), .int (nI lv), .ref (o 1), .ref (o 2), .ref (o 3), .ref (o 4), .ref (o 5), .ref (o 6), .ref (o 7), .ref (o 8), .int (bP (U)), .int (bP (True)), .int de, .int (vi + nI 1), .int (fa + nI 1), .int so, .ref (o 9), .ref (o 10), .ref (o 11), .ref (o 12)])), ((o 1), .inl (cI, 8, .inl (va_cpy be E 0 0 8))), ((o 2), .inl (cI, 16, .inl B.kd)), ((o 3), .inl (cI, 48, .inl B.mb)), ((o 4), .inl (cI, 16, .inl B.nu)), ((o 5), .inl (cI, 4, .inl B.sz)), ((o 6), .inl (cI, 144, .inl B.en)), ((o 7), .inl (cI, 80, .inl od)), ((o 8), .inl (cI, 10, .inl om)), ((o 9), .inl (cI, 8, .inl be)), ((o 10), .inl (cI, 8, .inl ke)), ((o 11), .inl (cI, 9, .inl ch)), ((o 12), .inl (cI, 9, .inl tr))] := G.sub [0, 1, 2, 3, 4, 5, 6, 7, 8, 9, 10, 11, 12] (by decide) rfl
    refine lv_iconst (v := (nI 1)) hx hb d_MO_root_47 (by decide) ?_
    rw [cpy_rw0 (fun y h9 => hDE.2 y (by omega)), mrl_be hR.1, hde] at G
    exact z_ret X hrt hlk G (rfl) (⟨0, 0, _, _, so, dr, br, un, _, ch, tr, ⟨rfl, Or.inl ⟨hE, rfl, rfl, rfl, rfl, rfl, rfl, rfl, rfl⟩⟩, hR, rfl, rfl⟩) d_MO_root_48
  · skip
    obtain ⟨hr1, hE⟩ : r17 = 1 ∧ IsClo cnt B dm E := by
      rcases q17 with h9 | h9
      · exact h9
      · rw [h9.1] at h20; exact absurd rfl h20
    have hDE := hE.1.2.1
    have hbc := bst_cnt (B := B) hDE 8 hc8
    refine lv_aload_n hx hb d_MO_root_23 rfl (lv_at hl 0 rfl) ?_
    refine lv_iconst (v := (nI 0)) hx hb d_MO_root_24 (by decide) ?_
    refine pf_MO_105 X G 0 rfl (rfl) (rfl) (Nat.le_of_ble_eq_true rfl) d_MO_root_25 (fun H locs G => ?_)
    have G : Gw D A zs.heap H locs [((o 0), .inr (5, [.int (nI cnt), .int (nI (B.1)), .int (nI lv), .ref (o 1), .ref (o 2), .ref (o 3), .ref (o 4), .ref (o 5), .ref (o 6), .ref (o 7), .ref (o 8), .int (bP (U)), .int (bP (True)), .int (nI 0), .int (vi + nI 1), .int fa, .int so, .ref (o 9), .ref (o 10), .ref (o 11), .ref (o 12)])), ((o 1), .inl (cI, 8, .inl E)), ((o 2), .inl (cI, 16, .inl B.kd)), ((o 3), .inl (cI, 48, .inl B.mb)), ((o 4), .inl (cI, 16, .inl B.nu)), ((o 5), .inl (cI, 4, .inl B.sz)), ((o 6), .inl (cI, 144, .inl B.en)), ((o 7), .inl (cI, 80, .inl od)), ((o 8), .inl (cI, 10, .inl om)), ((o 9), .inl (cI, 8, .inl be)), ((o 10), .inl (cI, 8, .inl ke)), ((o 11), .inl (cI, 9, .inl ch)), ((o 12), .inl (cI, 9, .inl tr))] := G
    refine lv_aload_n hx hb d_MO_root_28 rfl (lv_at hl 0 rfl) ?_
    refine zV_I (wr := []) X G (m_arrive l D cI o cnt lv B E od om be ke ch tr U True (vi + nI 1) fa so hB hDE 0 (by omega)) lk_MO_131 [0, 1, 2, 3, 4, 5, 6, 7, 8, 9, 10, 11, 12] rfl (by decide) [] rfl (by decide) (by decide) 0 rfl rfl ⟨by decide, by decide⟩ ⟨Nat.zero_le _, Nat.zero_le _⟩ hl.1 rfl (Nat.le_of_ble_eq_true rfl) d_MO_root_29 (fun r29 u H locs q29 G => ?_)
    obtain ⟨so1, rfl, q29⟩ := q29
    have G : Gw D A zs.heap H locs [((o 0), .inr (5, [.int (nI cnt), .int (nI (B.1)), .int (nI lv), .ref (o 1), .ref (o 2), .ref (o 3), .ref (o 4), .ref (o 5), .ref (o 6), .ref (o 7), .ref (o 8), .int (bP (U)), .int (bP (True)), .int (nI 0), .int (vi + nI 1), .int fa, .int so1, .ref (o 9), .ref (o 10), .ref (o 11), .ref (o 12)])), ((o 1), .inl (cI, 8, .inl E)), ((o 2), .inl (cI, 16, .inl B.kd)), ((o 3), .inl (cI, 48, .inl B.mb)), ((o 4), .inl (cI, 16, .inl B.nu)), ((o 5), .inl (cI, 4, .inl B.sz)), ((o 6), .inl (cI, 144, .inl B.en)), ((o 7), .inl (cI, 80, .inl od)), ((o 8), .inl (cI, 10, .inl om)), ((o 9), .inl (cI, 8, .inl be)), ((o 10), .inl (cI, 8, .inl ke)), ((o 11), .inl (cI, 9, .inl (upd ch 0 (bst B E cnt).1))), ((o 12), .inl (cI, 9, .inl (upd tr 0 (-1))))] := G.sub [0, 1, 2, 3, 4, 5, 6, 7, 8, 9, 10, 11, 12] (by decide) rfl
    have G : Gw D A zs.heap H locs [((o 0), .inr (5, [.int (nI cnt), .int (nI (B.1)), .int (nI lv), .ref (o 1), .ref (o 2), .ref (o 3), .ref (o 4), .ref (o 5), .ref (o 6), .ref (o 7), .ref (o 8), .int (bP (U)), .int (bP (True)), .int (nI (0 + 1) - 1), .int (vi + nI 1), .int fa, .int so1, .ref (o 9), .ref (o 10), .ref (o 11), .ref (o 12)])), ((o 1), .inl (cI, 8, .inl E)), ((o 2), .inl (cI, 16, .inl B.kd)), ((o 3), .inl (cI, 48, .inl B.mb)), ((o 4), .inl (cI, 16, .inl B.nu)), ((o 5), .inl (cI, 4, .inl B.sz)), ((o 6), .inl (cI, 144, .inl B.en)), ((o 7), .inl (cI, 80, .inl od)), ((o 8), .inl (cI, 10, .inl om)), ((o 9), .inl (cI, 8, .inl be)), ((o 10), .inl (cI, 8, .inl ke)), ((o 11), .inl (cI, 9, .inl (upd ch 0 (bst B E cnt).1))), ((o 12), .inl (cI, 9, .inl (upd tr 0 (-1))))] := by rw [nI_pred]; exact G
    have hz9 : ∀ y, 8 ≤ y → E y = 0 := fun y h9 => hDE.2 y (by omega)
    have hE0 : IsClo cnt B (cutn be ch tr 0) E := by rw [hc0]; exact hE
    exact z_ret X hrt hlk G (by rcases q29 with ⟨_, h9, _⟩ | ⟨_, _, _, _, h9, _⟩ <;> rw [h9] <;> rfl) (by rcases q29 with ⟨g1, g2, g3⟩ | ⟨x, g1, g2, g3, g4, g5⟩; exact ⟨1, 0 + 1, _, _, so1, _, br, _, E, _, _, ⟨rfl, Or.inr ⟨E, hE, rfl, rfl, rfl, rfl, Or.inl ⟨by rw [hbc]; exact g1, rfl, g3, rfl, rfl⟩⟩⟩, mrl_push hR (fun d h9 => absurd h9 (Nat.not_lt_zero d)) hE0 hz9 (Or.inl ⟨g1, rfl, rfl⟩), g2, rfl⟩; exact ⟨0, 0 + 1, _, _, so1, _, _, _, E, _, _, ⟨rfl, Or.inr ⟨E, hE, rfl, rfl, rfl, rfl, Or.inr ⟨x, by omega, g3, by rw [hbc]; exact g2, rfl, g5, rfl, rfl⟩⟩⟩, mrl_push hR (fun d h9 => absurd h9 (Nat.not_lt_zero d)) hE0 hz9 (Or.inr ⟨x, g1, g2, rfl, rfl⟩), g4, rfl⟩) d_MO_root_32
