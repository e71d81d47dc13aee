set_option maxHeartbeats 4000000 in
set_option maxRecDepth 100000 in
theorem m_visit (l : Launch) (D : va_G) (cI : ClassId) (o : Nat → Nat) (cnt lv : Nat) (B : Bk) (dm od om be ke ch tr : Nat → Int32) (U V : Prop) (de vi fa so : Int32) (hB : BOk cnt B) (p : Nat) (dr br un : Nat → Int32) (hT : TIv cnt p V dr br un dm) (hR : MRl cnt B p dr br un be ch tr) (hde : de = nI p - 1) : MI l y_MO_visit b_MO_visit 2 .int 7 D cI [.ref (o 0)] [((o 0), .inr (5, [.int (nI cnt), .int (nI (B.1)), .int (nI lv), .ref (o 1), .ref (o 2), .ref (o 3), .ref (o 4), .ref (o 5), .ref (o 6), .ref (o 7), .ref (o 8), .int (bP (U)), .int (bP (V)), .int de, .int vi, .int fa, .int so, .ref (o 9), .ref (o 10), .ref (o 11), .ref (o 12)])), ((o 1), .inl (cI, 8, .inl dm)), ((o 2), .inl (cI, 16, .inl B.kd)), ((o 3), .inl (cI, 48, .inl B.mb)), ((o 4), .inl (cI, 16, .inl B.nu)), ((o 5), .inl (cI, 4, .inl B.sz)), ((o 6), .inl (cI, 144, .inl B.en)), ((o 7), .inl (cI, 80, .inl od)), ((o 8), .inl (cI, 10, .inl om)), ((o 9), .inl (cI, 8, .inl be)), ((o 10), .inl (cI, 8, .inl ke)), ((o 11), .inl (cI, 9, .inl ch)), ((o 12), .inl (cI, 9, .inl tr))] (fun r u => ∃ rr p2 vi2 fa2 so2 dr2 br2 un2 dm2 ch2 tr2 dm3, Tst cnt B (p, V, vi, fa, so, dr, br, un, dm) rr (p2, True, vi2, fa2, so2, dr2, br2, un2, dm2) ∧ r = nI rr ∧ rr ≤ 2 ∧ u = [((o 0), .inr (5, [.int (nI cnt), .int (nI (B.1)), .int (nI lv), .ref (o 1), .ref (o 2), .ref (o 3), .ref (o 4), .ref (o 5), .ref (o 6), .ref (o 7), .ref (o 8), .int (bP (U)), .int (bP (True)), .int (nI p2 - 1), .int vi2, .int fa2, .int so2, .ref (o 9), .ref (o 10), .ref (o 11), .ref (o 12)])), ((o 1), .inl (cI, 8, .inl dm3)), ((o 2), .inl (cI, 16, .inl B.kd)), ((o 3), .inl (cI, 48, .inl B.mb)), ((o 4), .inl (cI, 16, .inl B.nu)), ((o 5), .inl (cI, 4, .inl B.sz)), ((o 6), .inl (cI, 144, .inl B.en)), ((o 7), .inl (cI, 80, .inl od)), ((o 8), .inl (cI, 10, .inl om)), ((o 9), .inl (cI, 8, .inl be)), ((o 10), .inl (cI, 8, .inl ke)), ((o 11), .inl (cI, 9, .inl ch2)), ((o 12), .inl (cI, 9, .inl tr2))] ∧ (rr ≠ 0 → dm3 = dm2 ∧ MRl cnt B p2 dr2 br2 un2 be ch2 tr2 ∧ TIv cnt p2 True dr2 br2 un2 dm2) ∧ (rr = 0 → ∀ x, 8 ≤ x → dm3 x = 0)) := by
  refine MI.of (by decide) (Nat.le_of_ble_eq_true rfl) ?_
  intro zp ze zs zm zb zt zc ls A X hrt hlk G hl
  have hx := X.1
  have hb := X.2.1
  have hl : lv_has ls 2 [(0, .ref (o 0))] := hl
  have hc8 := hB.1
  have hn16 := hB.2.1
  have hz8 : ∀ x, 8 ≤ x → dm x = 0 := fun x h9 => by rw [hT.2.1]; exact rwf_out h9
  have hb0 : rwf be 0 = rwf dr 0 := mrl_be hR.1
  have hbe : DOk cnt (rwf be 0) := by rw [hb0]; exact (hT.2.2.1 0 (Nat.zero_le _)).1
  have hp9 := hT.1
  refine lv_aload_n hx hb d_MO_visit_0 rfl (lv_at hl 0 rfl) ?_
  refine gf_MO_102 X G 0 rfl rfl d_MO_visit_1 ?_
  refine zb_ne hx hb d_MO_visit_4 rfl (fun h4 => ?_) (fun h4 => ?_)
  · skip
    refine lv_bipush (v := (nI 16)) hx hb d_MO_visit_12 (by decide) ?_
    refine lv_istore_n hx hb d_MO_visit_14 rfl hl (by decide) rfl (fun ls hl => ?_)
    have hl : lv_has ls 2 [(1, .int (nI 16)), (0, .ref (o 0))] := hl
    have lp : ∀ (fu : Nat) (p1 v : Nat) (dm1 : Nat → Int32) (hv16 : v ≤ 16) (hp1 : p1 ≤ p) (hz1 : ∀ y, 8 ≤ y → dm1 y = 0) (htop : topN un p1 = topN un p) (hv : v = 16 ∨ (v < 16 ∧ 0 < p1 ∧ dm1 = rwf dr p1 ∧ (tr (p1 - 1)).toInt < v ∧ (∀ w : Nat, (tr (p1 - 1)).toInt < w → w < v → ¬ hsR cnt (ch (p1 - 1)) (rwf dr p1) w) ∧ hsR cnt (ch (p1 - 1)) (rwf dr p1) v)) (hfu : 2 * p1 + v / 16 < fu) (H : Heap) (locs : List Loc) (ls : Array Slot), Gw D A zs.heap H locs [((o 0), .inr (5, [.int (nI cnt), .int (nI (B.1)), .int (nI lv), .ref (o 1), .ref (o 2), .ref (o 3), .ref (o 4), .ref (o 5), .ref (o 6), .ref (o 7), .ref (o 8), .int (bP (U)), .int (bP (V)), .int (nI p1 - 1), .int vi, .int fa, .int so, .ref (o 9), .ref (o 10), .ref (o 11), .ref (o 12)])), ((o 1), .inl (cI, 8, .inl dm1)), ((o 2), .inl (cI, 16, .inl B.kd)), ((o 3), .inl (cI, 48, .inl B.mb)), ((o 4), .inl (cI, 16, .inl B.nu)), ((o 5), .inl (cI, 4, .inl B.sz)), ((o 6), .inl (cI, 144, .inl B.en)), ((o 7), .inl (cI, 80, .inl od)), ((o 8), .inl (cI, 10, .inl om)), ((o 9), .inl (cI, 8, .inl be)), ((o 10), .inl (cI, 8, .inl ke)), ((o 11), .inl (cI, 9, .inl ch)), ((o 12), .inl (cI, 9, .inl tr))] → lv_has ls 2 [(1, .int (nI v)), (0, .ref (o 0))] → W zp l ze (zr 7) zs zm ([.ref (o 0)] : List Value).toArray zb zt zc H locs 0 0 (ZI D zb ([.ref (o 0)] : List Value) zs A (fun r u => ∃ rr p2 vi2 fa2 so2 dr2 br2 un2 dm2 ch2 tr2 dm3, Tst cnt B (p, V, vi, fa, so, dr, br, un, dm) rr (p2, True, vi2, fa2, so2, dr2, br2, un2, dm2) ∧ r = nI rr ∧ rr ≤ 2 ∧ u = [((o 0), .inr (5, [.int (nI cnt), .int (nI (B.1)), .int (nI lv), .ref (o 1), .ref (o 2), .ref (o 3), .ref (o 4), .ref (o 5), .ref (o 6), .ref (o 7), .ref (o 8), .int (bP (U)), .int (bP (True)), .int (nI p2 - 1), .int vi2, .int fa2, .int so2, .ref (o 9), .ref (o 10), .ref (o 11), .ref (o 12)])), ((o 1), .inl (cI, 8, .inl dm3)), ((o 2), .inl (cI, 16, .inl B.kd)), ((o 3), .inl (cI, 48, .inl B.mb)), ((o 4), .inl (cI, 16, .inl B.nu)), ((o 5), .inl (cI, 4, .inl B.sz)), ((o 6), .inl (cI, 144, .inl B.en)), ((o 7), .inl (cI, 80, .inl od)), ((o 8), .inl (cI, 10, .inl om)), ((o 9), .inl (cI, 8, .inl be)), ((o 10), .inl (cI, 8, .inl ke)), ((o 11), .inl (cI, 9, .inl ch2)), ((o 12), .inl (cI, 9, .inl tr2))] ∧ (rr ≠ 0 → dm3 = dm2 ∧ MRl cnt B p2 dr2 br2 un2 be ch2 tr2 ∧ TIv cnt p2 True dr2 br2 un2 dm2) ∧ (rr = 0 → ∀ x, 8 ≤ x → dm3 x = 0))) (F0 zm 15 ls []) := by
      intro fu
      induction fu with
      | zero => intro p1 v dm1 hv16 hp1 hz1 htop hv hfu; exact absurd hfu (Nat.not_lt_zero _)
      | succ fu lp =>
        intro p1 v dm1 hv16 hp1 hz1 htop hv hfu H locs ls G hl
        refine lv_aload_n hx hb d_MO_visit_15 rfl (lv_at hl 1 rfl) ?_
        refine gf_MO_105 X G 0 rfl rfl d_MO_visit_16 ?_
        refine zi_if_lt hx hb d_MO_visit_19 rfl (dp_toInt (by omega) : (nI p1 - 1).toInt = ((p1 : Nat) : Int) - 1) (fun h19 => ?_) (fun h19 => ?_)
        · skip
          refine lv_iload_n hx hb d_MO_visit_56 rfl (lv_at hl 0 rfl) ?_
          refine lv_bipush (v := (nI 16)) hx hb d_MO_visit_57 (by decide) ?_
          refine zi_icmp_ne hx hb d_MO_visit_59 rfl (nI_toInt (by omega) : (nI v).toInt = ((v : Nat) : Int)) (by decide : (nI 16).toInt = 16) (fun h59 => ?_) (fun h59 => ?_)
          · skip
            obtain ⟨hv15, hp0, hd1, ht1, hn1, hs1⟩ : (v < 16 ∧ 0 < p1 ∧ dm1 = rwf dr p1 ∧ (tr (p1 - 1)).toInt < v ∧ (∀ w : Nat, (tr (p1 - 1)).toInt < w → w < v → ¬ hsR cnt (ch (p1 - 1)) (rwf dr p1) w) ∧ hsR cnt (ch (p1 - 1)) (rwf dr p1) v) := hv.resolve_left (by omega)
            obtain ⟨x, hxc, hcx, hbx⟩ := hs1
            have hpp : p1 - 1 + 1 = p1 := by omega
            have hlo := (hT.2.2.2.2 (p1 - 1) (by omega)).2.1
            obtain ⟨hun, hbr, hlb, hR1, hct1⟩ := mrl_next (v := v) hR (show p1 - 1 < p by omega) hxc hv15 hcx hc8 hlo ht1 (by rw [hpp]; exact hbx) (by rw [hpp]; exact hn1)
            rw [hpp] at hR1 hct1
            have hPr := prp_ok (cnt := cnt) (dr := dr) (dm := dm) h4 hp0 hp1 htop (show x < 8 by omega) hbr hun
            have hMd := prp_mid hc8 hT hPr (by decide)
            have hIs := hR.2.1 (p1 - 1) (by omega)
            rw [hpp] at hIs
            have hdc := dmc_cut (p1 := p1) (x := x) (m := lbt (un (p1 - 1))) (dr := dr) hz8 (fun w h9 => by rw [hlb, b_one hv15, decide_eq_true_iff] at h9; rw [h9]; exact hbx)
            have hcn : cutn be ch (upd tr (p1 - 1) (nI v)) p1 = cut (cutn be ch tr (p1 - 1)) x (lbt (un (p1 - 1))) := by
              have h9 := cutn_s (be := be) (ch := ch) (tr := (upd tr (p1 - 1) (nI v))) (i := p1 - 1) (x := x) (v := v) (by omega) hcx pk_us
              rw [hpp] at h9
              rw [h9, hlb, cutn_c (p1 - 1) (ch := ch) (tr := tr) (fun i h8 => ⟨rfl, pk_un (by omega)⟩)]
            refine lv_aload_n hx hb d_MO_visit_64 rfl (lv_at hl 1 rfl) ?_
            refine lv_dup hx hb d_MO_visit_65 rfl ?_
            refine gf_MO_108 X G 0 rfl rfl d_MO_visit_66 ?_
            refine lv_iconst (v := (nI 1)) hx hb d_MO_visit_69 (by decide) ?_
            refine lv_iadd hx hb d_MO_visit_70 ?_
            refine pf_MO_108 X G 0 rfl (rfl) (rfl) (Nat.le_of_ble_eq_true rfl) d_MO_visit_71 (fun H locs G => ?_)
            have G : Gw D A zs.heap H locs [((o 0), .inr (5, [.int (nI cnt), .int (nI (B.1)), .int (nI lv), .ref (o 1), .ref (o 2), .ref (o 3), .ref (o 4), .ref (o 5), .ref (o 6), .ref (o 7), .ref (o 8), .int (bP (U)), .int (bP (V)), .int (nI p1 - 1), .int (vi + (nI 1)), .int fa, .int so, .ref (o 9), .ref (o 10), .ref (o 11), .ref (o 12)])), ((o 1), .inl (cI, 8, .inl dm1)), ((o 2), .inl (cI, 16, .inl B.kd)), ((o 3), .inl (cI, 48, .inl B.mb)), ((o 4), .inl (cI, 16, .inl B.nu)), ((o 5), .inl (cI, 4, .inl B.sz)), ((o 6), .inl (cI, 144, .inl B.en)), ((o 7), .inl (cI, 80, .inl od)), ((o 8), .inl (cI, 10, .inl om)), ((o 9), .inl (cI, 8, .inl be)), ((o 10), .inl (cI, 8, .inl ke)), ((o 11), .inl (cI, 9, .inl ch)), ((o 12), .inl (cI, 9, .inl tr))] := G
            refine lv_aload_n hx hb d_MO_visit_74 rfl (lv_at hl 1 rfl) ?_
            refine gf_MO_43 X G 0 rfl rfl d_MO_visit_75 ?_
            refine lv_aload_n hx hb d_MO_visit_78 rfl (lv_at hl 1 rfl) ?_
            refine gf_MO_105 X G 0 rfl rfl d_MO_visit_79 ?_
            refine lv_iload_n hx hb d_MO_visit_82 rfl (lv_at hl 0 rfl) ?_
            refine z_iast X G 12 rfl (p1 - 1) (dp_nat hp0) (by omega) (by decide) d_MO_visit_83 (fun H locs G => ?_)
            have G : Gw D A zs.heap H locs [((o 0), .inr (5, [.int (nI cnt), .int (nI (B.1)), .int (nI lv), .ref (o 1), .ref (o 2), .ref (o 3), .ref (o 4), .ref (o 5), .ref (o 6), .ref (o 7), .ref (o 8), .int (bP (U)), .int (bP (V)), .int (nI p1 - 1), .int (vi + (nI 1)), .int fa, .int so, .ref (o 9), .ref (o 10), .ref (o 11), .ref (o 12)])), ((o 1), .inl (cI, 8, .inl dm1)), ((o 2), .inl (cI, 16, .inl B.kd)), ((o 3), .inl (cI, 48, .inl B.mb)), ((o 4), .inl (cI, 16, .inl B.nu)), ((o 5), .inl (cI, 4, .inl B.sz)), ((o 6), .inl (cI, 144, .inl B.en)), ((o 7), .inl (cI, 80, .inl od)), ((o 8), .inl (cI, 10, .inl om)), ((o 9), .inl (cI, 8, .inl be)), ((o 10), .inl (cI, 8, .inl ke)), ((o 11), .inl (cI, 9, .inl ch)), ((o 12), .inl (cI, 9, .inl (upd tr (p1 - 1) (nI v))))] := G
            refine lv_aload_n hx hb d_MO_visit_84 rfl (lv_at hl 1 rfl) ?_
            refine lv_aload_n hx hb d_MO_visit_85 rfl (lv_at hl 1 rfl) ?_
            refine gf_MO_105 X G 0 rfl rfl d_MO_visit_86 ?_
            refine lv_iconst (v := (nI 1)) hx hb d_MO_visit_89 (by decide) ?_
            refine lv_iadd hx hb d_MO_visit_90 ?_
            refine z_top (nI p1) (pm_1 p1) ?_
            refine zV_I (wr := []) X G (m_node l D cI o cnt lv B dm1 od om be ke ch (upd tr (p1 - 1) (nI v)) U V (nI p1 - 1) (vi + nI 1) fa so hB p1 (by omega) hz1 hbe hct1) lk_MO_127 [0, 1, 2, 3, 4, 5, 6, 7, 8, 9, 10, 11, 12] rfl (by decide) [] rfl (by decide) (by decide) 0 rfl rfl ⟨by decide, by decide⟩ ⟨Nat.zero_le _, Nat.zero_le _⟩ hl.1 rfl (Nat.le_of_ble_eq_true rfl) d_MO_visit_91 (fun r91 u H locs q91 G => ?_)
            obtain ⟨E, rfl, q91⟩ := q91
            rw [hcn] at q91
            have G : Gw D A zs.heap H locs [((o 0), .inr (5, [.int (nI cnt), .int (nI (B.1)), .int (nI lv), .ref (o 1), .ref (o 2), .ref (o 3), .ref (o 4), .ref (o 5), .ref (o 6), .ref (o 7), .ref (o 8), .int (bP (U)), .int (bP (V)), .int (nI p1 - 1), .int (vi + nI 1), .int fa, .int so, .ref (o 9), .ref (o 10), .ref (o 11), .ref (o 12)])), ((o 1), .inl (cI, 8, .inl E)), ((o 2), .inl (cI, 16, .inl B.kd)), ((o 3), .inl (cI, 48, .inl B.mb)), ((o 4), .inl (cI, 16, .inl B.nu)), ((o 5), .inl (cI, 4, .inl B.sz)), ((o 6), .inl (cI, 144, .inl B.en)), ((o 7), .inl (cI, 80, .inl od)), ((o 8), .inl (cI, 10, .inl om)), ((o 9), .inl (cI, 8, .inl be)), ((o 10), .inl (cI, 8, .inl ke)), ((o 11), .inl (cI, 9, .inl ch)), ((o 12), .inl (cI, 9, .inl (upd tr (p1 - 1) (nI v))))] := G.sub [0, 1, 2, 3, 4, 5, 6, 7, 8, 9, 10, 11, 12] (by decide) rfl
            refine zi_if_eq hx hb d_MO_visit_94 rfl rfl (fun h94 => ?_) (fun h94 => ?_)
            · skip
              obtain ⟨hr0, hNo, hDE⟩ : r91 = 0 ∧ NoClo cnt B (cut (cutn be ch tr (p1 - 1)) x (lbt (un (p1 - 1)))) ∧ DOk cnt E := by
                rcases q91 with h9 | h9
                · rw [h9.1] at h94; exact absurd h94 (by decide)
                · exact h9
              have hNo2 := no_cut2 hIs hNo
              rw [← hdc] at hNo2
              refine lv_aload_n hx hb d_MO_visit_112 rfl (lv_at hl 1 rfl) ?_
              refine lv_dup hx hb d_MO_visit_113 rfl ?_
              refine gf_MO_111 X G 0 rfl rfl d_MO_visit_114 ?_
              refine lv_iconst (v := (nI 1)) hx hb d_MO_visit_117 (by decide) ?_
              refine lv_iadd hx hb d_MO_visit_118 ?_
              refine pf_MO_111 X G 0 rfl (rfl) (rfl) (Nat.le_of_ble_eq_true rfl) d_MO_visit_119 (fun H locs G => ?_)
              have G : Gw D A zs.heap H locs [((o 0), .inr (5, [.int (nI cnt), .int (nI (B.1)), .int (nI lv), .ref (o 1), .ref (o 2), .ref (o 3), .ref (o 4), .ref (o 5), .ref (o 6), .ref (o 7), .ref (o 8), .int (bP (U)), .int (bP (V)), .int (nI p1 - 1), .int (vi + nI 1), .int (fa + (nI 1)), .int so, .ref (o 9), .ref (o 10), .ref (o 11), .ref (o 12)])), ((o 1), .inl (cI, 8, .inl E)), ((o 2), .inl (cI, 16, .inl B.kd)), ((o 3), .inl (cI, 48, .inl B.mb)), ((o 4), .inl (cI, 16, .inl B.nu)), ((o 5), .inl (cI, 4, .inl B.sz)), ((o 6), .inl (cI, 144, .inl B.en)), ((o 7), .inl (cI, 80, .inl od)), ((o 8), .inl (cI, 10, .inl om)), ((o 9), .inl (cI, 8, .inl be)), ((o 10), .inl (cI, 8, .inl ke)), ((o 11), .inl (cI, 9, .inl ch)), ((o 12), .inl (cI, 9, .inl (upd tr (p1 - 1) (nI v))))] := G
              refine lv_aload_n hx hb d_MO_visit_122 rfl (lv_at hl 1 rfl) ?_
              refine lv_aload_n hx hb d_MO_visit_123 rfl (lv_at hl 1 rfl) ?_
              refine gf_MO_105 X G 0 rfl rfl d_MO_visit_124 ?_
              refine z_top (nI (p1 - 1)) (dp_nat hp0) ?_
              refine zV_I (wr := []) X G (m_node l D cI o cnt lv B E od om be ke ch (upd tr (p1 - 1) (nI v)) U V (nI p1 - 1) (vi + nI 1) (fa + nI 1) so hB (p1 - 1) (by omega) (fun y h9 => hDE.2 y (by omega)) hbe (fun i h9 => hct1 i (by omega))) lk_MO_127 [0, 1, 2, 3, 4, 5, 6, 7, 8, 9, 10, 11, 12] rfl (by decide) [] rfl (by decide) (by decide) 0 rfl rfl ⟨by decide, by decide⟩ ⟨Nat.zero_le _, Nat.zero_le _⟩ hl.1 rfl (Nat.le_of_ble_eq_true rfl) d_MO_visit_127 (fun r127 u H locs q127 G => ?_)
              obtain ⟨E2, rfl, q127⟩ := q127
              rw [cutn_c (p1 - 1) (ch := ch) (tr := tr) (fun i h8 => ⟨rfl, pk_un (by omega)⟩)] at q127
              obtain ⟨_, hE22⟩ := clo_dec hIs q127
              rw [hE22] at G
              have G : Gw D A zs.heap H locs [((o 0), .inr (5, [.int (nI cnt), .int (nI (B.1)), .int (nI lv), .ref (o 1), .ref (o 2), .ref (o 3), .ref (o 4), .ref (o 5), .ref (o 6), .ref (o 7), .ref (o 8), .int (bP (U)), .int (bP (V)), .int (nI p1 - 1), .int (vi + nI 1), .int (fa + nI 1), .int so, .ref (o 9), .ref (o 10), .ref (o 11), .ref (o 12)])), ((o 1), .inl (cI, 8, .inl (rwf dr p1))), ((o 2), .inl (cI, 16, .inl B.kd)), ((o 3), .inl (cI, 48, .inl B.mb)), ((o 4), .inl (cI, 16, .inl B.nu)), ((o 5), .inl (cI, 4, .inl B.sz)), ((o 6), .inl (cI, 144, .inl B.en)), ((o 7), .inl (cI, 80, .inl od)), ((o 8), .inl (cI, 10, .inl om)), ((o 9), .inl (cI, 8, .inl be)), ((o 10), .inl (cI, 8, .inl ke)), ((o 11), .inl (cI, 9, .inl ch)), ((o 12), .inl (cI, 9, .inl (upd tr (p1 - 1) (nI v))))] := G.sub [0, 1, 2, 3, 4, 5, 6, 7, 8, 9, 10, 11, 12] (by decide) rfl
              refine lv_pop hx hb d_MO_visit_130 rfl ?_
              refine lv_iconst (v := (nI 1)) hx hb d_MO_visit_131 (by decide) ?_
              have hVT : V = True := eq_true h4
              rw [show bP V = bP True by rw [hVT]] at G
              exact z_ret X hrt hlk G (rfl) (by have hVs : Vis cnt B p1 vi fa so dr br (upd un (p1 - 1) (un (p1 - 1) ^^^ lbt (un (p1 - 1)))) (upd (va_cpy dr dm (p1 * 8) 0 8) x (lbt (un (p1 - 1)))) 0 p1 (vi + nI 1) (fa + nI 1) so dr br (upd un (p1 - 1) (un (p1 - 1) ^^^ lbt (un (p1 - 1)))) (rwf dr p1) := ⟨rfl, Or.inl ⟨hNo2, rfl, rfl, rfl, rfl, rfl, rfl, rfl, rfl⟩⟩; exact ⟨1, p1, _, _, so, dr, br, _, _, ch, _, _, ⟨p1, _, _, Or.inr ⟨hPr, 0, _, _, _, _, _, _, _, _, hVs, rfl, rfl⟩⟩, rfl, by omega, rfl, fun _ => ⟨rfl, hR1, vis_ok hMd hVs⟩, fun h9 => absurd h9 (by decide)⟩) d_MO_visit_132
            · skip
              obtain ⟨hr1, hE⟩ : r91 = 1 ∧ IsClo cnt B (cut (cutn be ch tr (p1 - 1)) x (lbt (un (p1 - 1)))) E := by
                rcases q91 with h9 | h9
                · exact h9
                · rw [h9.1] at h94; exact absurd rfl h94
              have hDE := hE.1.2.1
              have hbc := bst_cnt (B := B) hDE 8 hc8
              have hE2 := clo_cut2 hIs hE
              rw [← hdc] at hE2
              have hp8 := (hMd.2.2.2.2.2 E hE2.1.1 hDE).1
              refine lv_aload_n hx hb d_MO_visit_97 rfl (lv_at hl 1 rfl) ?_
              refine lv_dup hx hb d_MO_visit_98 rfl ?_
              refine gf_MO_105 X G 0 rfl rfl d_MO_visit_99 ?_
              refine lv_iconst (v := (nI 1)) hx hb d_MO_visit_102 (by decide) ?_
              refine lv_iadd hx hb d_MO_visit_103 ?_
              refine z_top (nI p1) (pm_1 p1) ?_
              refine pf_MO_105 X G 0 rfl (rfl) (rfl) (Nat.le_of_ble_eq_true rfl) d_MO_visit_104 (fun H locs G => ?_)
              have G : Gw D A zs.heap H locs [((o 0), .inr (5, [.int (nI cnt), .int (nI (B.1)), .int (nI lv), .ref (o 1), .ref (o 2), .ref (o 3), .ref (o 4), .ref (o 5), .ref (o 6), .ref (o 7), .ref (o 8), .int (bP (U)), .int (bP (V)), .int (nI p1), .int (vi + nI 1), .int fa, .int so, .ref (o 9), .ref (o 10), .ref (o 11), .ref (o 12)])), ((o 1), .inl (cI, 8, .inl E)), ((o 2), .inl (cI, 16, .inl B.kd)), ((o 3), .inl (cI, 48, .inl B.mb)), ((o 4), .inl (cI, 16, .inl B.nu)), ((o 5), .inl (cI, 4, .inl B.sz)), ((o 6), .inl (cI, 144, .inl B.en)), ((o 7), .inl (cI, 80, .inl od)), ((o 8), .inl (cI, 10, .inl om)), ((o 9), .inl (cI, 8, .inl be)), ((o 10), .inl (cI, 8, .inl ke)), ((o 11), .inl (cI, 9, .inl ch)), ((o 12), .inl (cI, 9, .inl (upd tr (p1 - 1) (nI v))))] := G
              refine lv_aload_n hx hb d_MO_visit_107 rfl (lv_at hl 1 rfl) ?_
              refine zV_I (wr := []) X G (m_arrive l D cI o cnt lv B E od om be ke ch (upd tr (p1 - 1) (nI v)) U V (vi + nI 1) fa so hB hDE p1 hp8) lk_MO_131 [0, 1, 2, 3, 4, 5, 6, 7, 8, 9, 10, 11, 12] rfl (by decide) [] rfl (by decide) (by decide) 0 rfl rfl ⟨by decide, by decide⟩ ⟨Nat.zero_le _, Nat.zero_le _⟩ hl.1 rfl (Nat.le_of_ble_eq_true rfl) d_MO_visit_108 (fun r108 u H locs q108 G => ?_)
              obtain ⟨so1, rfl, q108⟩ := q108
              have G : Gw D A zs.heap H locs [((o 0), .inr (5, [.int (nI cnt), .int (nI (B.1)), .int (nI lv), .ref (o 1), .ref (o 2), .ref (o 3), .ref (o 4), .ref (o 5), .ref (o 6), .ref (o 7), .ref (o 8), .int (bP (U)), .int (bP (V)), .int (nI p1), .int (vi + nI 1), .int fa, .int so1, .ref (o 9), .ref (o 10), .ref (o 11), .ref (o 12)])), ((o 1), .inl (cI, 8, .inl E)), ((o 2), .inl (cI, 16, .inl B.kd)), ((o 3), .inl (cI, 48, .inl B.mb)), ((o 4), .inl (cI, 16, .inl B.nu)), ((o 5), .inl (cI, 4, .inl B.sz)), ((o 6), .inl (cI, 144, .inl B.en)), ((o 7), .inl (cI, 80, .inl od)), ((o 8), .inl (cI, 10, .inl om)), ((o 9), .inl (cI, 8, .inl be)), ((o 10), .inl (cI, 8, .inl ke)), ((o 11), .inl (cI, 9, .inl (upd ch p1 (bst B E cnt).1))), ((o 12), .inl (cI, 9, .inl (upd (upd tr (p1 - 1) (nI v)) p1 (-1))))] := G.sub [0, 1, 2, 3, 4, 5, 6, 7, 8, 9, 10, 11, 12] (by decide) rfl
              have hVT : V = True := eq_true h4
              have G : Gw D A zs.heap H locs [((o 0), .inr (5, [.int (nI cnt), .int (nI (B.1)), .int (nI lv), .ref (o 1), .ref (o 2), .ref (o 3), .ref (o 4), .ref (o 5), .ref (o 6), .ref (o 7), .ref (o 8), .int (bP (U)), .int (bP (True)), .int (nI (p1 + 1) - 1), .int (vi + nI 1), .int fa, .int so1, .ref (o 9), .ref (o 10), .ref (o 11), .ref (o 12)])), ((o 1), .inl (cI, 8, .inl E)), ((o 2), .inl (cI, 16, .inl B.kd)), ((o 3), .inl (cI, 48, .inl B.mb)), ((o 4), .inl (cI, 16, .inl B.nu)), ((o 5), .inl (cI, 4, .inl B.sz)), ((o 6), .inl (cI, 144, .inl B.en)), ((o 7), .inl (cI, 80, .inl od)), ((o 8), .inl (cI, 10, .inl om)), ((o 9), .inl (cI, 8, .inl be)), ((o 10), .inl (cI, 8, .inl ke)), ((o 11), .inl (cI, 9, .inl (upd ch p1 (bst B E cnt).1))), ((o 12), .inl (cI, 9, .inl (upd (upd tr (p1 - 1) (nI v)) p1 (-1))))] := by rw [nI_pred, ← show bP V = bP True by rw [hVT]]; exact G
              have hz9 : ∀ y, 8 ≤ y → E y = 0 := fun y h9 => hDE.2 y (by omega)
              have hE3 : IsClo cnt B (cutn be ch (upd tr (p1 - 1) (nI v)) p1) E := by rw [hcn]; exact hE
              exact z_ret X hrt hlk G (by rcases q108 with ⟨_, h9, _⟩ | ⟨_, _, _, _, h9, _⟩ <;> rw [h9] <;> rfl) (by
                              rcases q108 with ⟨g1, g2, g3⟩ | ⟨x2, g1, g2, g3, g4, g5⟩
                              · have hVs : Vis cnt B p1 vi fa so dr br (upd un (p1 - 1) (un (p1 - 1) ^^^ lbt (un (p1 - 1)))) (upd (va_cpy dr dm (p1 * 8) 0 8) x (lbt (un (p1 - 1)))) 1 (p1 + 1) (vi + nI 1) fa so1 (va_cpy E dr 0 ((p1 + 1) * 8) 8) br (upd (upd un (p1 - 1) (un (p1 - 1) ^^^ lbt (un (p1 - 1)))) p1 (nI 0)) E := ⟨rfl, Or.inr ⟨E, hE2, rfl, rfl, rfl, rfl, Or.inl ⟨by rw [hbc]; exact g1, rfl, g3, rfl, rfl⟩⟩⟩
                                exact ⟨2, p1 + 1, _, _, so1, _, _, _, E, _, _, E, ⟨p1, _, _, Or.inr ⟨hPr, 1, _, _, _, _, _, _, _, _, hVs, rfl, rfl⟩⟩, g2, by omega, rfl, fun _ => ⟨rfl, mrl_push hR1 hct1 hE3 hz9 (Or.inl ⟨g1, rfl, rfl⟩), vis_ok hMd hVs⟩, fun h9 => absurd h9 (by decide)⟩
                              · have hVs : Vis cnt B p1 vi fa so dr br (upd un (p1 - 1) (un (p1 - 1) ^^^ lbt (un (p1 - 1)))) (upd (va_cpy dr dm (p1 * 8) 0 8) x (lbt (un (p1 - 1)))) 0 (p1 + 1) (vi + nI 1) fa so1 (va_cpy E dr 0 ((p1 + 1) * 8) 8) (upd br p1 (nI x2)) (upd (upd un (p1 - 1) (un (p1 - 1) ^^^ lbt (un (p1 - 1)))) p1 (E x2)) E := ⟨rfl, Or.inr ⟨E, hE2, rfl, rfl, rfl, rfl, Or.inr ⟨x2, by omega, g3, by rw [hbc]; exact g2, rfl, g5, rfl, rfl⟩⟩⟩
                                exact ⟨1, p1 + 1, _, _, so1, _, _, _, E, _, _, E, ⟨p1, _, _, Or.inr ⟨hPr, 0, _, _, _, _, _, _, _, _, hVs, rfl, rfl⟩⟩, g4, by omega, rfl, fun _ => ⟨rfl, mrl_push hR1 hct1 hE3 hz9 (Or.inr ⟨x2, g1, g2, rfl, rfl⟩), vis_ok hMd hVs⟩, fun h9 => absurd h9 (by decide)⟩
                              ) d_MO_visit_111
          · skip
            refine lv_iconst (v := (nI 0)) hx hb d_MO_visit_62 (by decide) ?_
            have hp10 : p1 = 0 := by
              rcases hv with h9 | h9
              · omega
              · omega
            rw [hp10] at G
            have hVT : V = True := eq_true h4
            rw [show bP V = bP True by rw [hVT]] at G
            exact z_ret X hrt hlk G (rfl) (⟨0, 0, vi, fa, so, dr, br, un, dm, ch, tr, dm1, ⟨0, un, dm, Or.inl ⟨Or.inr (Or.inl ⟨h4, by rw [← htop, hp10]; rfl, rfl, rfl, rfl, rfl⟩), rfl, rfl⟩⟩, rfl, by omega, rfl, fun h9 => absurd rfl h9, fun _ => hz1⟩) d_MO_visit_63
        · skip
          have hp0 : 0 < p1 := by omega
          refine lv_iload_n hx hb d_MO_visit_22 rfl (lv_at hl 0 rfl) ?_
          refine lv_bipush (v := (nI 16)) hx hb d_MO_visit_23 (by decide) ?_
          refine zi_icmp_ne hx hb d_MO_visit_25 rfl (nI_toInt (by omega) : (nI v).toInt = ((v : Nat) : Int)) (by decide : (nI 16).toInt = 16) (fun h25 => ?_) (fun h25 => ?_)
          · skip
            refine lv_iload_n hx hb d_MO_visit_56 rfl (lv_at hl 0 rfl) ?_
            refine lv_bipush (v := (nI 16)) hx hb d_MO_visit_57 (by decide) ?_
            refine zi_icmp_ne hx hb d_MO_visit_59 rfl (nI_toInt (by omega) : (nI v).toInt = ((v : Nat) : Int)) (by decide : (nI 16).toInt = 16) (fun h59 => ?_) (fun h59 => ?_)
            · skip
              obtain ⟨hv15, hp0, hd1, ht1, hn1, hs1⟩ : (v < 16 ∧ 0 < p1 ∧ dm1 = rwf dr p1 ∧ (tr (p1 - 1)).toInt < v ∧ (∀ w : Nat, (tr (p1 - 1)).toInt < w → w < v → ¬ hsR cnt (ch (p1 - 1)) (rwf dr p1) w) ∧ hsR cnt (ch (p1 - 1)) (rwf dr p1) v) := hv.resolve_left (by omega)
              obtain ⟨x, hxc, hcx, hbx⟩ := hs1
              have hpp : p1 - 1 + 1 = p1 := by omega
              have hlo := (hT.2.2.2.2 (p1 - 1) (by omega)).2.1
              obtain ⟨hun, hbr, hlb, hR1, hct1⟩ := mrl_next (v := v) hR (show p1 - 1 < p by omega) hxc hv15 hcx hc8 hlo ht1 (by rw [hpp]; exact hbx) (by rw [hpp]; exact hn1)
              rw [hpp] at hR1 hct1
              have hPr := prp_ok (cnt := cnt) (dr := dr) (dm := dm) h4 hp0 hp1 htop (show x < 8 by omega) hbr hun
              have hMd := prp_mid hc8 hT hPr (by decide)
              have hIs := hR.2.1 (p1 - 1) (by omega)
              rw [hpp] at hIs
              have hdc := dmc_cut (p1 := p1) (x := x) (m := lbt (un (p1 - 1))) (dr := dr) hz8 (fun w h9 => by rw [hlb, b_one hv15, decide_eq_true_iff] at h9; rw [h9]; exact hbx)
              have hcn : cutn be ch (upd tr (p1 - 1) (nI v)) p1 = cut (cutn be ch tr (p1 - 1)) x (lbt (un (p1 - 1))) := by
                have h9 := cutn_s (be := be) (ch := ch) (tr := (upd tr (p1 - 1) (nI v))) (i := p1 - 1) (x := x) (v := v) (by omega) hcx pk_us
                rw [hpp] at h9
                rw [h9, hlb, cutn_c (p1 - 1) (ch := ch) (tr := tr) (fun i h8 => ⟨rfl, pk_un (by omega)⟩)]
              refine lv_aload_n hx hb d_MO_visit_64 rfl (lv_at hl 1 rfl) ?_
              refine lv_dup hx hb d_MO_visit_65 rfl ?_
              refine gf_MO_108 X G 0 rfl rfl d_MO_visit_66 ?_
              refine lv_iconst (v := (nI 1)) hx hb d_MO_visit_69 (by decide) ?_
              refine lv_iadd hx hb d_MO_visit_70 ?_
              refine pf_MO_108 X G 0 rfl (rfl) (rfl) (Nat.le_of_ble_eq_true rfl) d_MO_visit_71 (fun H locs G => ?_)
              have G : Gw D A zs.heap H locs [((o 0), .inr (5, [.int (nI cnt), .int (nI (B.1)), .int (nI lv), .ref (o 1), .ref (o 2), .ref (o 3), .ref (o 4), .ref (o 5), .ref (o 6), .ref (o 7), .ref (o 8), .int (bP (U)), .int (bP (V)), .int (nI p1 - 1), .int (vi + (nI 1)), .int fa, .int so, .ref (o 9), .ref (o 10), .ref (o 11), .ref (o 12)])), ((o 1), .inl (cI, 8, .inl dm1)), ((o 2), .inl (cI, 16, .inl B.kd)), ((o 3), .inl (cI, 48, .inl B.mb)), ((o 4), .inl (cI, 16, .inl B.nu)), ((o 5), .inl (cI, 4, .inl B.sz)), ((o 6), .inl (cI, 144, .inl B.en)), ((o 7), .inl (cI, 80, .inl od)), ((o 8), .inl (cI, 10, .inl om)), ((o 9), .inl (cI, 8, .inl be)), ((o 10), .inl (cI, 8, .inl ke)), ((o 11), .inl (cI, 9, .inl ch)), ((o 12), .inl (cI, 9, .inl tr))] := G
              refine lv_aload_n hx hb d_MO_visit_74 rfl (lv_at hl 1 rfl) ?_
              refine gf_MO_43 X G 0 rfl rfl d_MO_visit_75 ?_
              refine lv_aload_n hx hb d_MO_visit_78 rfl (lv_at hl 1 rfl) ?_
              refine gf_MO_105 X G 0 rfl rfl d_MO_visit_79 ?_
              refine lv_iload_n hx hb d_MO_visit_82 rfl (lv_at hl 0 rfl) ?_
              refine z_iast X G 12 rfl (p1 - 1) (dp_nat hp0) (by omega) (by decide) d_MO_visit_83 (fun H locs G => ?_)
              have G : Gw D A zs.heap H locs [((o 0), .inr (5, [.int (nI cnt), .int (nI (B.1)), .int (nI lv), .ref (o 1), .ref (o 2), .ref (o 3), .ref (o 4), .ref (o 5), .ref (o 6), .ref (o 7), .ref (o 8), .int (bP (U)), .int (bP (V)), .int (nI p1 - 1), .int (vi + (nI 1)), .int fa, .int so, .ref (o 9), .ref (o 10), .ref (o 11), .ref (o 12)])), ((o 1), .inl (cI, 8, .inl dm1)), ((o 2), .inl (cI, 16, .inl B.kd)), ((o 3), .inl (cI, 48, .inl B.mb)), ((o 4), .inl (cI, 16, .inl B.nu)), ((o 5), .inl (cI, 4, .inl B.sz)), ((o 6), .inl (cI, 144, .inl B.en)), ((o 7), .inl (cI, 80, .inl od)), ((o 8), .inl (cI, 10, .inl om)), ((o 9), .inl (cI, 8, .inl be)), ((o 10), .inl (cI, 8, .inl ke)), ((o 11), .inl (cI, 9, .inl ch)), ((o 12), .inl (cI, 9, .inl (upd tr (p1 - 1) (nI v))))] := G
              refine lv_aload_n hx hb d_MO_visit_84 rfl (lv_at hl 1 rfl) ?_
              refine lv_aload_n hx hb d_MO_visit_85 rfl (lv_at hl 1 rfl) ?_
              refine gf_MO_105 X G 0 rfl rfl d_MO_visit_86 ?_
              refine lv_iconst (v := (nI 1)) hx hb d_MO_visit_89 (by decide) ?_
              refine lv_iadd hx hb d_MO_visit_90 ?_
              refine z_top (nI p1) (pm_1 p1) ?_
              refine zV_I (wr := []) X G (m_node l D cI o cnt lv B dm1 od om be ke ch (upd tr (p1 - 1) (nI v)) U V (nI p1 - 1) (vi + nI 1) fa so hB p1 (by omega) hz1 hbe hct1) lk_MO_127 [0, 1, 2, 3, 4, 5, 6, 7, 8, 9, 10, 11, 12] rfl (by decide) [] rfl (by decide) (by decide) 0 rfl rfl ⟨by decide, by decide⟩ ⟨Nat.zero_le _, Nat.zero_le _⟩ hl.1 rfl (Nat.le_of_ble_eq_true rfl) d_MO_visit_91 (fun r91 u H locs q91 G => ?_)
              obtain ⟨E, rfl, q91⟩ := q91
              rw [hcn] at q91
              have G : Gw D A zs.heap H locs [((o 0), .inr (5, [.int (nI cnt), .int (nI (B.1)), .int (nI lv), .ref (o 1), .ref (o 2), .ref (o 3), .ref (o 4), .ref (o 5), .ref (o 6), .ref (o 7), .ref (o 8), .int (bP (U)), .int (bP (V)), .int (nI p1 - 1), .int (vi + nI 1), .int fa, .int so, .ref (o 9), .ref (o 10), .ref (o 11), .ref (o 12)])), ((o 1), .inl (cI, 8, .inl E)), ((o 2), .inl (cI, 16, .inl B.kd)), ((o 3), .inl (cI, 48, .inl B.mb)), ((o 4), .inl (cI, 16, .inl B.nu)), ((o 5), .inl (cI, 4, .inl B.sz)), ((o 6), .inl (cI, 144, .inl B.en)), ((o 7), .inl (cI, 80, .inl od)), ((o 8), .inl (cI, 10, .inl om)), ((o 9), .inl (cI, 8, .inl be)), ((o 10), .inl (cI, 8, .inl ke)), ((o 11), .inl (cI, 9, .inl ch)), ((o 12), .inl (cI, 9, .inl (upd tr (p1 - 1) (nI v))))] := G.sub [0, 1, 2, 3, 4, 5, 6, 7, 8, 9, 10, 11, 12] (by decide) rfl
              refine zi_if_eq hx hb d_MO_visit_94 rfl rfl (fun h94 => ?_) (fun h94 => ?_)
              · skip
                obtain ⟨hr0, hNo, hDE⟩ : r91 = 0 ∧ NoClo cnt B (cut (cutn be ch tr (p1 - 1)) x (lbt (un (p1 - 1)))) ∧ DOk cnt E := by
                  rcases q91 with h9 | h9
                  · rw [h9.1] at h94; exact absurd h94 (by decide)
                  · exact h9
                have hNo2 := no_cut2 hIs hNo
                rw [← hdc] at hNo2
                refine lv_aload_n hx hb d_MO_visit_112 rfl (lv_at hl 1 rfl) ?_
                refine lv_dup hx hb d_MO_visit_113 rfl ?_
                refine gf_MO_111 X G 0 rfl rfl d_MO_visit_114 ?_
                refine lv_iconst (v := (nI 1)) hx hb d_MO_visit_117 (by decide) ?_
                refine lv_iadd hx hb d_MO_visit_118 ?_
                refine pf_MO_111 X G 0 rfl (rfl) (rfl) (Nat.le_of_ble_eq_true rfl) d_MO_visit_119 (fun H locs G => ?_)
                have G : Gw D A zs.heap H locs [((o 0), .inr (5, [.int (nI cnt), .int (nI (B.1)), .int (nI lv), .ref (o 1), .ref (o 2), .ref (o 3), .ref (o 4), .ref (o 5), .ref (o 6), .ref (o 7), .ref (o 8), .int (bP (U)), .int (bP (V)), .int (nI p1 - 1), .int (vi + nI 1), .int (fa + (nI 1)), .int so, .ref (o 9), .ref (o 10), .ref (o 11), .ref (o 12)])), ((o 1), .inl (cI, 8, .inl E)), ((o 2), .inl (cI, 16, .inl B.kd)), ((o 3), .inl (cI, 48, .inl B.mb)), ((o 4), .inl (cI, 16, .inl B.nu)), ((o 5), .inl (cI, 4, .inl B.sz)), ((o 6), .inl (cI, 144, .inl B.en)), ((o 7), .inl (cI, 80, .inl od)), ((o 8), .inl (cI, 10, .inl om)), ((o 9), .inl (cI, 8, .inl be)), ((o 10), .inl (cI, 8, .inl ke)), ((o 11), .inl (cI, 9, .inl ch)), ((o 12), .inl (cI, 9, .inl (upd tr (p1 - 1) (nI v))))] := G
                refine lv_aload_n hx hb d_MO_visit_122 rfl (lv_at hl 1 rfl) ?_
                refine lv_aload_n hx hb d_MO_visit_123 rfl (lv_at hl 1 rfl) ?_
                refine gf_MO_105 X G 0 rfl rfl d_MO_visit_124 ?_
                refine z_top (nI (p1 - 1)) (dp_nat hp0) ?_
                refine zV_I (wr := []) X G (m_node l D cI o cnt lv B E od om be ke ch (upd tr (p1 - 1) (nI v)) U V (nI p1 - 1) (vi + nI 1) (fa + nI 1) so hB (p1 - 1) (by omega) (fun y h9 => hDE.2 y (by omega)) hbe (fun i h9 => hct1 i (by omega))) lk_MO_127 [0, 1, 2, 3, 4, 5, 6, 7, 8, 9, 10, 11, 12] rfl (by decide) [] rfl (by decide) (by decide) 0 rfl rfl ⟨by decide, by decide⟩ ⟨Nat.zero_le _, Nat.zero_le _⟩ hl.1 rfl (Nat.le_of_ble_eq_true rfl) d_MO_visit_127 (fun r127 u H locs q127 G => ?_)
                obtain ⟨E2, rfl, q127⟩ := q127
                rw [cutn_c (p1 - 1) (ch := ch) (tr := tr) (fun i h8 => ⟨rfl, pk_un (by omega)⟩)] at q127
                obtain ⟨_, hE22⟩ := clo_dec hIs q127
                rw [hE22] at G
                have G : Gw D A zs.heap H locs [((o 0), .inr (5, [.int (nI cnt), .int (nI (B.1)), .int (nI lv), .ref (o 1), .ref (o 2), .ref (o 3), .ref (o 4), .ref (o 5), .ref (o 6), .ref (o 7), .ref (o 8), .int (bP (U)), .int (bP (V)), .int (nI p1 - 1), .int (vi + nI 1), .int (fa + nI 1), .int so, .ref (o 9), .ref (o 10), .ref (o 11), .ref (o 12)])), ((o 1), .inl (cI, 8, .inl (rwf dr p1))), ((o 2), .inl (cI, 16, .inl B.kd)), ((o 3), .inl (cI, 48, .inl B.mb)), ((o 4), .inl (cI, 16, .inl B.nu)), ((o 5), .inl (cI, 4, .inl B.sz)), ((o 6), .inl (cI, 144, .inl B.en)), ((o 7), .inl (cI, 80, .inl od)), ((o 8), .inl (cI, 10, .inl om)), ((o 9), .inl (cI, 8, .inl be)), ((o 10), .inl (cI, 8, .inl ke)), ((o 11), .inl (cI, 9, .inl ch)), ((o 12), .inl (cI, 9, .inl (upd tr (p1 - 1) (nI v))))] := G.sub [0, 1, 2, 3, 4, 5, 6, 7, 8, 9, 10, 11, 12] (by decide) rfl
                refine lv_pop hx hb d_MO_visit_130 rfl ?_
                refine lv_iconst (v := (nI 1)) hx hb d_MO_visit_131 (by decide) ?_
                have hVT : V = True := eq_true h4
                rw [show bP V = bP True by rw [hVT]] at G
                exact z_ret X hrt hlk G (rfl) (by have hVs : Vis cnt B p1 vi fa so dr br (upd un (p1 - 1) (un (p1 - 1) ^^^ lbt (un (p1 - 1)))) (upd (va_cpy dr dm (p1 * 8) 0 8) x (lbt (un (p1 - 1)))) 0 p1 (vi + nI 1) (fa + nI 1) so dr br (upd un (p1 - 1) (un (p1 - 1) ^^^ lbt (un (p1 - 1)))) (rwf dr p1) := ⟨rfl, Or.inl ⟨hNo2, rfl, rfl, rfl, rfl, rfl, rfl, rfl, rfl⟩⟩; exact ⟨1, p1, _, _, so, dr, br, _, _, ch, _, _, ⟨p1, _, _, Or.inr ⟨hPr, 0, _, _, _, _, _, _, _, _, hVs, rfl, rfl⟩⟩, rfl, by omega, rfl, fun _ => ⟨rfl, hR1, vis_ok hMd hVs⟩, fun h9 => absurd h9 (by decide)⟩) d_MO_visit_132
              · skip
                obtain ⟨hr1, hE⟩ : r91 = 1 ∧ IsClo cnt B (cut (cutn be ch tr (p1 - 1)) x (lbt (un (p1 - 1)))) E := by
                  rcases q91 with h9 | h9
                  · exact h9
                  · rw [h9.1] at h94; exact absurd rfl h94
                have hDE := hE.1.2.1
                have hbc := bst_cnt (B := B) hDE 8 hc8
                have hE2 := clo_cut2 hIs hE
                rw [← hdc] at hE2
                have hp8 := (hMd.2.2.2.2.2 E hE2.1.1 hDE).1
                refine lv_aload_n hx hb d_MO_visit_97 rfl (lv_at hl 1 rfl) ?_
                refine lv_dup hx hb d_MO_visit_98 rfl ?_
                refine gf_MO_105 X G 0 rfl rfl d_MO_visit_99 ?_
                refine lv_iconst (v := (nI 1)) hx hb d_MO_visit_102 (by decide) ?_
                refine lv_iadd hx hb d_MO_visit_103 ?_
                refine z_top (nI p1) (pm_1 p1) ?_
                refine pf_MO_105 X G 0 rfl (rfl) (rfl) (Nat.le_of_ble_eq_true rfl) d_MO_visit_104 (fun H locs G => ?_)
                have G : Gw D A zs.heap H locs [((o 0), .inr (5, [.int (nI cnt), .int (nI (B.1)), .int (nI lv), .ref (o 1), .ref (o 2), .ref (o 3), .ref (o 4), .ref (o 5), .ref (o 6), .ref (o 7), .ref (o 8), .int (bP (U)), .int (bP (V)), .int (nI p1), .int (vi + nI 1), .int fa, .int so, .ref (o 9), .ref (o 10), .ref (o 11), .ref (o 12)])), ((o 1), .inl (cI, 8, .inl E)), ((o 2), .inl (cI, 16, .inl B.kd)), ((o 3), .inl (cI, 48, .inl B.mb)), ((o 4), .inl (cI, 16, .inl B.nu)), ((o 5), .inl (cI, 4, .inl B.sz)), ((o 6), .inl (cI, 144, .inl B.en)), ((o 7), .inl (cI, 80, .inl od)), ((o 8), .inl (cI, 10, .inl om)), ((o 9), .inl (cI, 8, .inl be)), ((o 10), .inl (cI, 8, .inl ke)), ((o 11), .inl (cI, 9, .inl ch)), ((o 12), .inl (cI, 9, .inl (upd tr (p1 - 1) (nI v))))] := G
                refine lv_aload_n hx hb d_MO_visit_107 rfl (lv_at hl 1 rfl) ?_
                refine zV_I (wr := []) X G (m_arrive l D cI o cnt lv B E od om be ke ch (upd tr (p1 - 1) (nI v)) U V (vi + nI 1) fa so hB hDE p1 hp8) lk_MO_131 [0, 1, 2, 3, 4, 5, 6, 7, 8, 9, 10, 11, 12] rfl (by decide) [] rfl (by decide) (by decide) 0 rfl rfl ⟨by decide, by decide⟩ ⟨Nat.zero_le _, Nat.zero_le _⟩ hl.1 rfl (Nat.le_of_ble_eq_true rfl) d_MO_visit_108 (fun r108 u H locs q108 G => ?_)
                obtain ⟨so1, rfl, q108⟩ := q108
                have G : Gw D A zs.heap H locs [((o 0), .inr (5, [.int (nI cnt), .int (nI (B.1)), .int (nI lv), .ref (o 1), .ref (o 2), .ref (o 3), .ref (o 4), .ref (o 5), .ref (o 6), .ref (o 7), .ref (o 8), .int (bP (U)), .int (bP (V)), .int (nI p1), .int (vi + nI 1), .int fa, .int so1, .ref (o 9), .ref (o 10), .ref (o 11), .ref (o 12)])), ((o 1), .inl (cI, 8, .inl E)), ((o 2), .inl (cI, 16, .inl B.kd)), ((o 3), .inl (cI, 48, .inl B.mb)), ((o 4), .inl (cI, 16, .inl B.nu)), ((o 5), .inl (cI, 4, .inl B.sz)), ((o 6), .inl (cI, 144, .inl B.en)), ((o 7), .inl (cI, 80, .inl od)), ((o 8), .inl (cI, 10, .inl om)), ((o 9), .inl (cI, 8, .inl be)), ((o 10), .inl (cI, 8, .inl ke)), ((o 11), .inl (cI, 9, .inl (upd ch p1 (bst B E cnt).1))), ((o 12), .inl (cI, 9, .inl (upd (upd tr (p1 - 1) (nI v)) p1 (-1))))] := G.sub [0, 1, 2, 3, 4, 5, 6, 7, 8, 9, 10, 11, 12] (by decide) rfl
                have hVT : V = True := eq_true h4
                have G : Gw D A zs.heap H locs [((o 0), .inr (5, [.int (nI cnt), .int (nI (B.1)), .int (nI lv), .ref (o 1), .ref (o 2), .ref (o 3), .ref (o 4), .ref (o 5), .ref (o 6), .ref (o 7), .ref (o 8), .int (bP (U)), .int (bP (True)), .int (nI (p1 + 1) - 1), .int (vi + nI 1), .int fa, .int so1, .ref (o 9), .ref (o 10), .ref (o 11), .ref (o 12)])), ((o 1), .inl (cI, 8, .inl E)), ((o 2), .inl (cI, 16, .inl B.kd)), ((o 3), .inl (cI, 48, .inl B.mb)), ((o 4), .inl (cI, 16, .inl B.nu)), ((o 5), .inl (cI, 4, .inl B.sz)), ((o 6), .inl (cI, 144, .inl B.en)), ((o 7), .inl (cI, 80, .inl od)), ((o 8), .inl (cI, 10, .inl om)), ((o 9), .inl (cI, 8, .inl be)), ((o 10), .inl (cI, 8, .inl ke)), ((o 11), .inl (cI, 9, .inl (upd ch p1 (bst B E cnt).1))), ((o 12), .inl (cI, 9, .inl (upd (upd tr (p1 - 1) (nI v)) p1 (-1))))] := by rw [nI_pred, ← show bP V = bP True by rw [hVT]]; exact G
                have hz9 : ∀ y, 8 ≤ y → E y = 0 := fun y h9 => hDE.2 y (by omega)
                have hE3 : IsClo cnt B (cutn be ch (upd tr (p1 - 1) (nI v)) p1) E := by rw [hcn]; exact hE
                exact z_ret X hrt hlk G (by rcases q108 with ⟨_, h9, _⟩ | ⟨_, _, _, _, h9, _⟩ <;> rw [h9] <;> rfl) (by
                              rcases q108 with ⟨g1, g2, g3⟩ | ⟨x2, g1, g2, g3, g4, g5⟩
                              · have hVs : Vis cnt B p1 vi fa so dr br (upd un (p1 - 1) (un (p1 - 1) ^^^ lbt (un (p1 - 1)))) (upd (va_cpy dr dm (p1 * 8) 0 8) x (lbt (un (p1 - 1)))) 1 (p1 + 1) (vi + nI 1) fa so1 (va_cpy E dr 0 ((p1 + 1) * 8) 8) br (upd (upd un (p1 - 1) (un (p1 - 1) ^^^ lbt (un (p1 - 1)))) p1 (nI 0)) E := ⟨rfl, Or.inr ⟨E, hE2, rfl, rfl, rfl, rfl, Or.inl ⟨by rw [hbc]; exact g1, rfl, g3, rfl, rfl⟩⟩⟩
                                exact ⟨2, p1 + 1, _, _, so1, _, _, _, E, _, _, E, ⟨p1, _, _, Or.inr ⟨hPr, 1, _, _, _, _, _, _, _, _, hVs, rfl, rfl⟩⟩, g2, by omega, rfl, fun _ => ⟨rfl, mrl_push hR1 hct1 hE3 hz9 (Or.inl ⟨g1, rfl, rfl⟩), vis_ok hMd hVs⟩, fun h9 => absurd h9 (by decide)⟩
                              · have hVs : Vis cnt B p1 vi fa so dr br (upd un (p1 - 1) (un (p1 - 1) ^^^ lbt (un (p1 - 1)))) (upd (va_cpy dr dm (p1 * 8) 0 8) x (lbt (un (p1 - 1)))) 0 (p1 + 1) (vi + nI 1) fa so1 (va_cpy E dr 0 ((p1 + 1) * 8) 8) (upd br p1 (nI x2)) (upd (upd un (p1 - 1) (un (p1 - 1) ^^^ lbt (un (p1 - 1)))) p1 (E x2)) E := ⟨rfl, Or.inr ⟨E, hE2, rfl, rfl, rfl, rfl, Or.inr ⟨x2, by omega, g3, by rw [hbc]; exact g2, rfl, g5, rfl, rfl⟩⟩⟩
                                exact ⟨1, p1 + 1, _, _, so1, _, _, _, E, _, _, E, ⟨p1, _, _, Or.inr ⟨hPr, 0, _, _, _, _, _, _, _, _, hVs, rfl, rfl⟩⟩, g4, by omega, rfl, fun _ => ⟨rfl, mrl_push hR1 hct1 hE3 hz9 (Or.inr ⟨x2, g1, g2, rfl, rfl⟩), vis_ok hMd hVs⟩, fun h9 => absurd h9 (by decide)⟩
                              ) d_MO_visit_111
            · skip
              refine lv_iconst (v := (nI 0)) hx hb d_MO_visit_62 (by decide) ?_
              have hp10 : p1 = 0 := by
                rcases hv with h9 | h9
                · omega
                · omega
              rw [hp10] at G
              have hVT : V = True := eq_true h4
              rw [show bP V = bP True by rw [hVT]] at G
              exact z_ret X hrt hlk G (rfl) (⟨0, 0, vi, fa, so, dr, br, un, dm, ch, tr, dm1, ⟨0, un, dm, Or.inl ⟨Or.inr (Or.inl ⟨h4, by rw [← htop, hp10]; rfl, rfl, rfl, rfl, rfl⟩), rfl, rfl⟩⟩, rfl, by omega, rfl, fun h9 => absurd rfl h9, fun _ => hz1⟩) d_MO_visit_63
          · skip
            have hpp : p1 - 1 + 1 = p1 := by omega
            have hlo := (hT.2.2.2.2 (p1 - 1) (by omega)).2.1
            have hIs := hR.2.1 (p1 - 1) (by omega)
            rw [hpp] at hIs
            obtain ⟨ht0, ht16, hch⟩ := hR.2.2.1 (p1 - 1) (by omega)
            refine lv_aload_n hx hb d_MO_visit_28 rfl (lv_at hl 1 rfl) ?_
            rw [dp_nat hp0] at G
            refine zV_I (wr := []) X G (m_following l D cI o cnt lv B dm1 od om be ke ch tr U V vi fa so hB (p1 - 1) (rwf dr p1) (by omega) hz1 hbe (fun i h9 => hR.2.2.2 i (by omega)) hIs ht0 ht16 (by rcases hch with h9 | ⟨x, h8, h9, _⟩; exact Or.inl h9.1; exact Or.inr ⟨x, h8, h9⟩)) lk_MO_137 [0, 1, 2, 3, 4, 5, 6, 7, 8, 9, 10, 11, 12] rfl (by decide) [] rfl (by decide) (by decide) 0 rfl rfl ⟨by decide, by decide⟩ ⟨Nat.zero_le _, Nat.zero_le _⟩ hl.1 rfl (Nat.le_of_ble_eq_true rfl) d_MO_visit_29 (fun r29 u H locs q29 G => ?_)
            obtain ⟨rfl, v2, g1, g2, g3, g4, g5⟩ := q29
            have G : Gw D A zs.heap H locs [((o 0), .inr (5, [.int (nI cnt), .int (nI (B.1)), .int (nI lv), .ref (o 1), .ref (o 2), .ref (o 3), .ref (o 4), .ref (o 5), .ref (o 6), .ref (o 7), .ref (o 8), .int (bP (U)), .int (bP (V)), .int (nI (p1 - 1)), .int vi, .int fa, .int so, .ref (o 9), .ref (o 10), .ref (o 11), .ref (o 12)])), ((o 1), .inl (cI, 8, .inl (rwf dr p1))), ((o 2), .inl (cI, 16, .inl B.kd)), ((o 3), .inl (cI, 48, .inl B.mb)), ((o 4), .inl (cI, 16, .inl B.nu)), ((o 5), .inl (cI, 4, .inl B.sz)), ((o 6), .inl (cI, 144, .inl B.en)), ((o 7), .inl (cI, 80, .inl od)), ((o 8), .inl (cI, 10, .inl om)), ((o 9), .inl (cI, 8, .inl be)), ((o 10), .inl (cI, 8, .inl ke)), ((o 11), .inl (cI, 9, .inl ch)), ((o 12), .inl (cI, 9, .inl tr))] := G.sub [0, 1, 2, 3, 4, 5, 6, 7, 8, 9, 10, 11, 12] (by decide) rfl
            refine z_top (nI v2) (g2) ?_
            refine lv_istore_n hx hb d_MO_visit_32 rfl hl (by decide) rfl (fun ls hl => ?_)
            have hl : lv_has ls 2 [(1, .int (nI v2)), (0, .ref (o 0))] := hl
            refine lv_aload_n hx hb d_MO_visit_33 rfl (lv_at hl 1 rfl) ?_
            refine lv_dup hx hb d_MO_visit_34 rfl ?_
            refine gf_MO_105 X G 0 rfl rfl d_MO_visit_35 ?_
            refine lv_iload_n hx hb d_MO_visit_38 rfl (lv_at hl 0 rfl) ?_
            refine lv_bipush (v := (nI 16)) hx hb d_MO_visit_39 (by decide) ?_
            refine zi_icmp_ne hx hb d_MO_visit_41 rfl (nI_toInt (by omega) : (nI v2).toInt = ((v2 : Nat) : Int)) (by decide : (nI 16).toInt = 16) (fun h41 => ?_) (fun h41 => ?_)
            · skip
              refine lv_iconst (v := (nI 0)) hx hb d_MO_visit_48 (by decide) ?_
              refine zn_sub hx hb (by omega) d_MO_visit_49 ?_
              refine z_top (nI p1 - 1) (by rw [Nat.sub_zero, dp_nat hp0]) ?_
              refine pf_MO_105 X G 0 rfl (rfl) (rfl) (Nat.le_of_ble_eq_true rfl) d_MO_visit_50 (fun H locs G => ?_)
              have G : Gw D A zs.heap H locs [((o 0), .inr (5, [.int (nI cnt), .int (nI (B.1)), .int (nI lv), .ref (o 1), .ref (o 2), .ref (o 3), .ref (o 4), .ref (o 5), .ref (o 6), .ref (o 7), .ref (o 8), .int (bP (U)), .int (bP (V)), .int (nI p1 - 1), .int vi, .int fa, .int so, .ref (o 9), .ref (o 10), .ref (o 11), .ref (o 12)])), ((o 1), .inl (cI, 8, .inl (rwf dr p1))), ((o 2), .inl (cI, 16, .inl B.kd)), ((o 3), .inl (cI, 48, .inl B.mb)), ((o 4), .inl (cI, 16, .inl B.nu)), ((o 5), .inl (cI, 4, .inl B.sz)), ((o 6), .inl (cI, 144, .inl B.en)), ((o 7), .inl (cI, 80, .inl od)), ((o 8), .inl (cI, 10, .inl om)), ((o 9), .inl (cI, 8, .inl be)), ((o 10), .inl (cI, 8, .inl ke)), ((o 11), .inl (cI, 9, .inl ch)), ((o 12), .inl (cI, 9, .inl tr))] := G
              refine lv_goto hx hb d_MO_visit_53 rfl ?_
              have hl : lv_has ls 2 [(1, .int (nI v2)), (0, .ref (o 0))] := lv_sub hl [0, 1] rfl
              exact lp p1 v2 (rwf dr p1) (by omega) (by omega) (fun y h9 => rwf_out h9) htop (Or.inr ⟨by omega, hp0, rfl, g3, g4, g5 (by omega)⟩) (by omega) _ _ _ G hl
            · skip
              refine lv_iconst (v := (nI 1)) hx hb d_MO_visit_44 (by decide) ?_
              refine lv_goto hx hb d_MO_visit_45 rfl ?_
              refine lv_isub hx hb d_MO_visit_49 ?_
              refine z_top (nI (p1 - 1) - 1) (rfl) ?_
              refine pf_MO_105 X G 0 rfl (rfl) (rfl) (Nat.le_of_ble_eq_true rfl) d_MO_visit_50 (fun H locs G => ?_)
              have G : Gw D A zs.heap H locs [((o 0), .inr (5, [.int (nI cnt), .int (nI (B.1)), .int (nI lv), .ref (o 1), .ref (o 2), .ref (o 3), .ref (o 4), .ref (o 5), .ref (o 6), .ref (o 7), .ref (o 8), .int (bP (U)), .int (bP (V)), .int (nI (p1 - 1) - 1), .int vi, .int fa, .int so, .ref (o 9), .ref (o 10), .ref (o 11), .ref (o 12)])), ((o 1), .inl (cI, 8, .inl (rwf dr p1))), ((o 2), .inl (cI, 16, .inl B.kd)), ((o 3), .inl (cI, 48, .inl B.mb)), ((o 4), .inl (cI, 16, .inl B.nu)), ((o 5), .inl (cI, 4, .inl B.sz)), ((o 6), .inl (cI, 144, .inl B.en)), ((o 7), .inl (cI, 80, .inl od)), ((o 8), .inl (cI, 10, .inl om)), ((o 9), .inl (cI, 8, .inl be)), ((o 10), .inl (cI, 8, .inl ke)), ((o 11), .inl (cI, 9, .inl ch)), ((o 12), .inl (cI, 9, .inl tr))] := G
              refine lv_goto hx hb d_MO_visit_53 rfl ?_
              have hl : lv_has ls 2 [(1, .int (nI v2)), (0, .ref (o 0))] := lv_sub hl [0, 1] rfl
              exact lp (p1 - 1) v2 (rwf dr p1) (by omega) (by omega) (fun y h9 => rwf_out h9) ((topN_0 hp0 (mrl_none hR (show p1 - 1 < p by omega) hlo (by rw [hpp]; exact fun w g8 g9 => g4 w g8 (by omega)))).trans htop) (Or.inl (by omega)) (by omega) _ _ _ G hl
    have hl : lv_has ls 2 [(1, .int (nI 16)), (0, .ref (o 0))] := lv_sub hl [0, 1] rfl
    rw [hde] at G
    exact lp _ p 16 dm (by omega) (Nat.le_refl _) hz8 rfl (Or.inl rfl) (Nat.lt_succ_self _) _ _ _ G hl
  · skip
    refine lv_aload_n hx hb d_MO_visit_7 rfl (lv_at hl 0 rfl) ?_
    refine zV_I (wr := []) X G (m_root l D cI o cnt lv B dm od om be ke ch tr U V de vi fa so hB dr br un (by rw [hT.2.1]; exact (hT.2.2.1 p (Nat.le_refl _)).1) (by rw [hT.2.1, hT.2.2.2.1 h4]) (by rw [hT.2.2.2.1 h4] at hR; exact hR) (by rw [hde, hT.2.2.2.1 h4])) lk_MO_134 [0, 1, 2, 3, 4, 5, 6, 7, 8, 9, 10, 11, 12] rfl (by decide) [] rfl (by decide) (by decide) 0 rfl rfl ⟨by decide, by decide⟩ ⟨Nat.zero_le _, Nat.zero_le _⟩ hl.1 rfl (Nat.le_of_ble_eq_true rfl) d_MO_visit_8 (fun r8 u H locs q8 G => ?_)
    obtain ⟨rr, p2, vi2, fa2, so2, dr2, br2, un2, dm2, ch2, tr2, hVis, hRl, hrr, rfl⟩ := q8
    have hp0 := hT.2.2.2.1 h4
    have hPr : Prp p V dr br un dm 1 0 un dm := Or.inl ⟨h4, rfl, hp0.symm, rfl, rfl⟩
    have G : Gw D A zs.heap H locs [((o 0), .inr (5, [.int (nI cnt), .int (nI (B.1)), .int (nI lv), .ref (o 1), .ref (o 2), .ref (o 3), .ref (o 4), .ref (o 5), .ref (o 6), .ref (o 7), .ref (o 8), .int (bP (U)), .int (bP (True)), .int (nI p2 - 1), .int vi2, .int fa2, .int so2, .ref (o 9), .ref (o 10), .ref (o 11), .ref (o 12)])), ((o 1), .inl (cI, 8, .inl dm2)), ((o 2), .inl (cI, 16, .inl B.kd)), ((o 3), .inl (cI, 48, .inl B.mb)), ((o 4), .inl (cI, 16, .inl B.nu)), ((o 5), .inl (cI, 4, .inl B.sz)), ((o 6), .inl (cI, 144, .inl B.en)), ((o 7), .inl (cI, 80, .inl od)), ((o 8), .inl (cI, 10, .inl om)), ((o 9), .inl (cI, 8, .inl be)), ((o 10), .inl (cI, 8, .inl ke)), ((o 11), .inl (cI, 9, .inl ch2)), ((o 12), .inl (cI, 9, .inl tr2))] := G.sub [0, 1, 2, 3, 4, 5, 6, 7, 8, 9, 10, 11, 12] (by decide) rfl
    exact z_ret X hrt hlk G (by rw [hrr]; rfl) (⟨if rr = 1 then 2 else 1, p2, vi2, fa2, so2, dr2, br2, un2, dm2, ch2, tr2, dm2, ⟨0, un, dm, Or.inr ⟨hPr, rr, p2, vi2, fa2, so2, dr2, br2, un2, dm2, hVis, rfl, rfl⟩⟩, hrr, by split <;> omega, rfl, fun _ => ⟨rfl, hRl, vis_ok (prp_mid hc8 hT hPr (by decide)) hVis⟩, fun h9 => absurd h9 (by split <;> omega)⟩) d_MO_visit_11
