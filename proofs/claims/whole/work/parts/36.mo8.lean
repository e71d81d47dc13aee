set_option maxHeartbeats 4000000 in
set_option maxRecDepth 100000 in
theorem m_advance (l : Launch) (D : va_G) (cI : ClassId) (o : Nat → Nat) (cnt lv : Nat) (B : Bk) (dm od om be ke ch tr : Nat → Int32) (U V : Prop) (de vi fa so : Int32) (n : Int32) (hB : BOk cnt B) (p : Nat) (dr br un : Nat → Int32) (hT : U → TIv cnt p V dr br un dm) (hR : U → MRl cnt B p dr br un be ch tr) (hde : U → de = nI p - 1) : MI l y_MO_advance b_MO_advance 4 .int 8 D cI [.ref (o 0), .int n] [((o 0), .inr (5, [.int (nI cnt), .int (nI (B.1)), .int (nI lv), .ref (o 1), .ref (o 2), .ref (o 3), .ref (o 4), .ref (o 5), .ref (o 6), .ref (o 7), .ref (o 8), .int (bP (U)), .int (bP (V)), .int de, .int vi, .int fa, .int so, .ref (o 9), .ref (o 10), .ref (o 11), .ref (o 12)])), ((o 1), .inl (cI, 8, .inl dm)), ((o 2), .inl (cI, 16, .inl B.kd)), ((o 3), .inl (cI, 48, .inl B.mb)), ((o 4), .inl (cI, 16, .inl B.nu)), ((o 5), .inl (cI, 4, .inl B.sz)), ((o 6), .inl (cI, 144, .inl B.en)), ((o 7), .inl (cI, 80, .inl od)), ((o 8), .inl (cI, 10, .inl om)), ((o 9), .inl (cI, 8, .inl be)), ((o 10), .inl (cI, 8, .inl ke)), ((o 11), .inl (cI, 9, .inl ch)), ((o 12), .inl (cI, 9, .inl tr))] (fun r u => (¬ (U ∧ 1 ≤ n.toInt ∧ n.toInt ≤ 20) ∧ r = -1 ∧ u = [((o 0), .inr (5, [.int (nI cnt), .int (nI (B.1)), .int (nI lv), .ref (o 1), .ref (o 2), .ref (o 3), .ref (o 4), .ref (o 5), .ref (o 6), .ref (o 7), .ref (o 8), .int (bP (U)), .int (bP (V)), .int de, .int vi, .int fa, .int so, .ref (o 9), .ref (o 10), .ref (o 11), .ref (o 12)])), ((o 1), .inl (cI, 8, .inl dm)), ((o 2), .inl (cI, 16, .inl B.kd)), ((o 3), .inl (cI, 48, .inl B.mb)), ((o 4), .inl (cI, 16, .inl B.nu)), ((o 5), .inl (cI, 4, .inl B.sz)), ((o 6), .inl (cI, 144, .inl B.en)), ((o 7), .inl (cI, 80, .inl od)), ((o 8), .inl (cI, 10, .inl om)), ((o 9), .inl (cI, 8, .inl be)), ((o 10), .inl (cI, 8, .inl ke)), ((o 11), .inl (cI, 9, .inl ch)), ((o 12), .inl (cI, 9, .inl tr))]) ∨ ((U ∧ 1 ≤ n.toInt ∧ n.toInt ≤ 20) ∧ ∃ nn rr p1 vi1 fa1 so1 dr1 br1 un1 dm1 ch1 tr1 dm3, n = nI nn ∧ nn ≤ 20 ∧ Adv cnt B nn (p, V, vi, fa, so, dr, br, un, dm) rr (p1, True, vi1, fa1, so1, dr1, br1, un1, dm1) ∧ r = nI rr ∧ ((rr ≠ 0 ∧ MRl cnt B p1 dr1 br1 un1 be ch1 tr1 ∧ u = [((o 0), .inr (5, [.int (nI cnt), .int (nI (B.1)), .int (nI lv), .ref (o 1), .ref (o 2), .ref (o 3), .ref (o 4), .ref (o 5), .ref (o 6), .ref (o 7), .ref (o 8), .int (bP (U)), .int (bP (True)), .int (nI p1 - 1), .int vi1, .int fa1, .int so1, .ref (o 9), .ref (o 10), .ref (o 11), .ref (o 12)])), ((o 1), .inl (cI, 8, .inl dm1)), ((o 2), .inl (cI, 16, .inl B.kd)), ((o 3), .inl (cI, 48, .inl B.mb)), ((o 4), .inl (cI, 16, .inl B.nu)), ((o 5), .inl (cI, 4, .inl B.sz)), ((o 6), .inl (cI, 144, .inl B.en)), ((o 7), .inl (cI, 80, .inl od)), ((o 8), .inl (cI, 10, .inl om)), ((o 9), .inl (cI, 8, .inl be)), ((o 10), .inl (cI, 8, .inl ke)), ((o 11), .inl (cI, 9, .inl ch1)), ((o 12), .inl (cI, 9, .inl tr1))]) ∨ (rr = 0 ∧ (∀ x, 8 ≤ x → dm3 x = 0) ∧ u = [((o 0), .inr (5, [.int (nI cnt), .int (nI (B.1)), .int (nI lv), .ref (o 1), .ref (o 2), .ref (o 3), .ref (o 4), .ref (o 5), .ref (o 6), .ref (o 7), .ref (o 8), .int (bP (False)), .int (bP (True)), .int (nI p1 - 1), .int vi1, .int fa1, .int so1, .ref (o 9), .ref (o 10), .ref (o 11), .ref (o 12)])), ((o 1), .inl (cI, 8, .inl (va_cpy be dm3 0 0 8))), ((o 2), .inl (cI, 16, .inl B.kd)), ((o 3), .inl (cI, 48, .inl B.mb)), ((o 4), .inl (cI, 16, .inl B.nu)), ((o 5), .inl (cI, 4, .inl B.sz)), ((o 6), .inl (cI, 144, .inl B.en)), ((o 7), .inl (cI, 80, .inl od)), ((o 8), .inl (cI, 10, .inl om)), ((o 9), .inl (cI, 8, .inl be)), ((o 10), .inl (cI, 8, .inl ke)), ((o 11), .inl (cI, 9, .inl ch1)), ((o 12), .inl (cI, 9, .inl tr1))])))) := by
  refine MI.of (by decide) (Nat.le_of_ble_eq_true rfl) ?_
  intro zp ze zs zm zb zt zc ls A X hrt hlk G hl
  have hx := X.1
  have hb := X.2.1
  have hl : lv_has ls 4 [(0, .ref (o 0)), (1, .int n)] := hl
  have hc8 := hB.1
  have hn16 := hB.2.1
  refine lv_aload_n hx hb d_MO_advance_0 rfl (lv_at hl 0 rfl) ?_
  refine gf_MO_46 X G 0 rfl rfl d_MO_advance_1 ?_
  refine zb_eq hx hb d_MO_advance_4 rfl (fun h4 => ?_) (fun h4 => ?_)
  · skip
    refine lv_iconst (v := (-1)) hx hb d_MO_advance_18 (by decide) ?_
    exact z_ret X hrt hlk G (rfl) (Or.inl ⟨by first | exact fun h9 => h4 h9.1 | exact fun h9 => h15 h9.2, rfl, rfl⟩) d_MO_advance_19
  · skip
    refine lv_aload_n hx hb d_MO_advance_7 rfl (lv_at hl 0 rfl) ?_
    refine lv_iload_n hx hb d_MO_advance_8 rfl (lv_at hl 1 rfl) ?_
    refine lv_iconst (v := (nI 1)) hx hb d_MO_advance_9 (by decide) ?_
    refine lv_bipush (v := (nI 20)) hx hb d_MO_advance_10 (by decide) ?_
    refine zV_R X G (m_within l D cI o cnt lv B dm od om be ke ch tr U V de vi fa so n (nI 1) (nI 20) 1 20 (by decide) (by decide)) lk_MO_58 [0, 1, 2, 3, 4, 5, 6, 7, 8, 9, 10, 11, 12] rfl (by decide) 0 rfl rfl ⟨by decide, by decide⟩ ⟨Nat.zero_le _, Nat.zero_le _⟩ hl.1 rfl (Nat.le_of_ble_eq_true rfl) d_MO_advance_12 (fun H locs G => ?_)
    refine zb_ne hx hb d_MO_advance_15 rfl (fun h15 => ?_) (fun h15 => ?_)
    · skip
      obtain ⟨nn, hnn, hnx⟩ := nI_ex (k := 21) (v := n) (by omega) (by omega) (by decide)
      have hn1 : 1 ≤ nn := by rw [hnx, nI_toInt (by omega)] at h15; omega
      rw [hnx] at hl
      rw [hde h4] at G
      refine lv_iconst (v := (nI 1)) hx hb d_MO_advance_20 (by decide) ?_
      refine lv_istore_n hx hb d_MO_advance_21 rfl hl (by decide) rfl (fun ls hl => ?_)
      have hl : lv_has ls 4 [(2, .int (nI 1)), (0, .ref (o 0)), (1, .int (nI nn))] := hl
      refine lv_iconst (v := (nI 0)) hx hb d_MO_advance_22 (by decide) ?_
      refine lv_istore_n hx hb d_MO_advance_23 rfl hl (by decide) rfl (fun ls hl => ?_)
      have hl : lv_has ls 4 [(3, .int (nI 0)), (2, .int (nI 1)), (0, .ref (o 0)), (1, .int (nI nn))] := hl
      have lp : ∀ (fu : Nat) (kk gt : Nat) (V1 : Prop) (p1 : Nat) (vi1 fa1 so1 : Int32) (dr1 br1 un1 dm1 ch1 tr1 dm3 : Nat → Int32) (hkk : kk ≤ nn) (hgt : gt ≤ 2) (hV1 : 0 < kk → V1) (h1 : gt = 1 → TIv cnt p1 V1 dr1 br1 un1 dm1 ∧ MRl cnt B p1 dr1 br1 un1 be ch1 tr1 ∧ dm3 = dm1 ∧ ∀ rr t, Adv cnt B (nn - kk) (p1, V1, vi1, fa1, so1, dr1, br1, un1, dm1) rr t → Adv cnt B nn (p, V, vi, fa, so, dr, br, un, dm) rr t) (h2 : gt ≠ 1 → Adv cnt B nn (p, V, vi, fa, so, dr, br, un, dm) gt (p1, V1, vi1, fa1, so1, dr1, br1, un1, dm1) ∧ 0 < kk) (h3 : gt ≠ 0 → dm3 = dm1 ∧ MRl cnt B p1 dr1 br1 un1 be ch1 tr1) (h0 : ∀ x, 8 ≤ x → dm3 x = 0) (hfu : nn - kk < fu) (H : Heap) (locs : List Loc) (ls : Array Slot), Gw D A zs.heap H locs [((o 0), .inr (5, [.int (nI cnt), .int (nI (B.1)), .int (nI lv), .ref (o 1), .ref (o 2), .ref (o 3), .ref (o 4), .ref (o 5), .ref (o 6), .ref (o 7), .ref (o 8), .int (bP (U)), .int (bP (V1)), .int (nI p1 - 1), .int vi1, .int fa1, .int so1, .ref (o 9), .ref (o 10), .ref (o 11), .ref (o 12)])), ((o 1), .inl (cI, 8, .inl dm3)), ((o 2), .inl (cI, 16, .inl B.kd)), ((o 3), .inl (cI, 48, .inl B.mb)), ((o 4), .inl (cI, 16, .inl B.nu)), ((o 5), .inl (cI, 4, .inl B.sz)), ((o 6), .inl (cI, 144, .inl B.en)), ((o 7), .inl (cI, 80, .inl od)), ((o 8), .inl (cI, 10, .inl om)), ((o 9), .inl (cI, 8, .inl be)), ((o 10), .inl (cI, 8, .inl ke)), ((o 11), .inl (cI, 9, .inl ch1)), ((o 12), .inl (cI, 9, .inl tr1))] → lv_has ls 4 [(3, .int (nI kk)), (2, .int (nI gt)), (1, .int (nI nn)), (0, .ref (o 0))] → W zp l ze (zr 8) zs zm ([.ref (o 0), .int n] : List Value).toArray zb zt zc H locs 0 0 (ZI D zb ([.ref (o 0), .int n] : List Value) zs A (fun r u => (¬ (U ∧ 1 ≤ n.toInt ∧ n.toInt ≤ 20) ∧ r = -1 ∧ u = [((o 0), .inr (5, [.int (nI cnt), .int (nI (B.1)), .int (nI lv), .ref (o 1), .ref (o 2), .ref (o 3), .ref (o 4), .ref (o 5), .ref (o 6), .ref (o 7), .ref (o 8), .int (bP (U)), .int (bP (V)), .int de, .int vi, .int fa, .int so, .ref (o 9), .ref (o 10), .ref (o 11), .ref (o 12)])), ((o 1), .inl (cI, 8, .inl dm)), ((o 2), .inl (cI, 16, .inl B.kd)), ((o 3), .inl (cI, 48, .inl B.mb)), ((o 4), .inl (cI, 16, .inl B.nu)), ((o 5), .inl (cI, 4, .inl B.sz)), ((o 6), .inl (cI, 144, .inl B.en)), ((o 7), .inl (cI, 80, .inl od)), ((o 8), .inl (cI, 10, .inl om)), ((o 9), .inl (cI, 8, .inl be)), ((o 10), .inl (cI, 8, .inl ke)), ((o 11), .inl (cI, 9, .inl ch)), ((o 12), .inl (cI, 9, .inl tr))]) ∨ ((U ∧ 1 ≤ n.toInt ∧ n.toInt ≤ 20) ∧ ∃ nn rr p1 vi1 fa1 so1 dr1 br1 un1 dm1 ch1 tr1 dm3, n = nI nn ∧ nn ≤ 20 ∧ Adv cnt B nn (p, V, vi, fa, so, dr, br, un, dm) rr (p1, True, vi1, fa1, so1, dr1, br1, un1, dm1) ∧ r = nI rr ∧ ((rr ≠ 0 ∧ MRl cnt B p1 dr1 br1 un1 be ch1 tr1 ∧ u = [((o 0), .inr (5, [.int (nI cnt), .int (nI (B.1)), .int (nI lv), .ref (o 1), .ref (o 2), .ref (o 3), .ref (o 4), .ref (o 5), .ref (o 6), .ref (o 7), .ref (o 8), .int (bP (U)), .int (bP (True)), .int (nI p1 - 1), .int vi1, .int fa1, .int so1, .ref (o 9), .ref (o 10), .ref (o 11), .ref (o 12)])), ((o 1), .inl (cI, 8, .inl dm1)), ((o 2), .inl (cI, 16, .inl B.kd)), ((o 3), .inl (cI, 48, .inl B.mb)), ((o 4), .inl (cI, 16, .inl B.nu)), ((o 5), .inl (cI, 4, .inl B.sz)), ((o 6), .inl (cI, 144, .inl B.en)), ((o 7), .inl (cI, 80, .inl od)), ((o 8), .inl (cI, 10, .inl om)), ((o 9), .inl (cI, 8, .inl be)), ((o 10), .inl (cI, 8, .inl ke)), ((o 11), .inl (cI, 9, .inl ch1)), ((o 12), .inl (cI, 9, .inl tr1))]) ∨ (rr = 0 ∧ (∀ x, 8 ≤ x → dm3 x = 0) ∧ u = [((o 0), .inr (5, [.int (nI cnt), .int (nI (B.1)), .int (nI lv), .ref (o 1), .ref (o 2), .ref (o 3), .ref (o 4), .ref (o 5), .ref (o 6), .ref (o 7), .ref (o 8), .int (bP (False)), .int (bP (True)), .int (nI p1 - 1), .int vi1, .int fa1, .int so1, .ref (o 9), .ref (o 10), .ref (o 11), .ref (o 12)])), ((o 1), .inl (cI, 8, .inl (va_cpy be dm3 0 0 8))), ((o 2), .inl (cI, 16, .inl B.kd)), ((o 3), .inl (cI, 48, .inl B.mb)), ((o 4), .inl (cI, 16, .inl B.nu)), ((o 5), .inl (cI, 4, .inl B.sz)), ((o 6), .inl (cI, 144, .inl B.en)), ((o 7), .inl (cI, 80, .inl od)), ((o 8), .inl (cI, 10, .inl om)), ((o 9), .inl (cI, 8, .inl be)), ((o 10), .inl (cI, 8, .inl ke)), ((o 11), .inl (cI, 9, .inl ch1)), ((o 12), .inl (cI, 9, .inl tr1))]))))) (F0 zm 24 ls []) := by
        intro fu
        induction fu with
        | zero => intro kk gt V1 p1 vi1 fa1 so1 dr1 br1 un1 dm1 ch1 tr1 dm3 hkk hgt hV1 h1 h2 h3 h0 hfu; exact absurd hfu (Nat.not_lt_zero _)
        | succ fu lp =>
          intro kk gt V1 p1 vi1 fa1 so1 dr1 br1 un1 dm1 ch1 tr1 dm3 hkk hgt hV1 h1 h2 h3 h0 hfu H locs ls G hl
          refine lv_iload_n hx hb d_MO_advance_24 rfl (lv_at hl 0 rfl) ?_
          refine lv_iload_n hx hb d_MO_advance_25 rfl (lv_at hl 2 rfl) ?_
          refine zi_icmp_ge hx hb d_MO_advance_26 rfl (nI_toInt (by omega) : (nI kk).toInt = ((kk : Nat) : Int)) (nI_toInt (by omega) : (nI nn).toInt = ((nn : Nat) : Int)) (fun h26 => ?_) (fun h26 => ?_)
          · skip
            have hAll : Adv cnt B nn (p, V, vi, fa, so, dr, br, un, dm) gt (p1, V1, vi1, fa1, so1, dr1, br1, un1, dm1) := by
              by_cases e9 : gt = 1
              · rw [e9]; exact (h1 e9).2.2.2 1 _ (adv_0 (by omega))
              · exact (h2 e9).1
            have hv1 : V1 := hV1 (by
              by_cases e9 : gt = 1
              · omega
              · exact (h2 e9).2)
            have ev1 : V1 = True := eq_true hv1
            subst ev1
            refine lv_iload_n hx hb d_MO_advance_45 rfl (lv_at hl 1 rfl) ?_
            refine zi_if_ne hx hb d_MO_advance_46 rfl (nI_toInt (by omega) : (nI gt).toInt = ((gt : Nat) : Int)) (fun h46 => ?_) (fun h46 => ?_)
            · skip
              obtain ⟨hd3, hR3⟩ := h3 (by omega)
              rw [hd3] at G
              refine lv_iload_n hx hb d_MO_advance_54 rfl (lv_at hl 1 rfl) ?_
              exact z_ret X hrt hlk G (rfl) (Or.inr ⟨⟨h4, h15⟩, nn, gt, p1, vi1, fa1, so1, dr1, br1, un1, dm1, ch1, tr1, dm3, hnx, by omega, hAll, rfl, by first | exact Or.inl ⟨by omega, hR3, rfl⟩ | exact Or.inr ⟨hg0, h0, rfl⟩⟩) d_MO_advance_55
            · skip
              have hg0 : gt = 0 := by omega
              refine lv_aload_n hx hb d_MO_advance_49 rfl (lv_at hl 3 rfl) ?_
              refine zV_I (wr := []) X G (m_stop l D cI o cnt lv B dm3 od om be ke ch1 tr1 U True (nI p1 - 1) vi1 fa1 so1) lk_MO_143 [0, 1, 2, 3, 4, 5, 6, 7, 8, 9, 10, 11, 12] rfl (by decide) [] rfl (by decide) (by decide) 0 rfl rfl ⟨by decide, by decide⟩ ⟨Nat.zero_le _, Nat.zero_le _⟩ hl.1 rfl (Nat.le_of_ble_eq_true rfl) d_MO_advance_50 (fun r50 u H locs q50 G => ?_)
              obtain ⟨hr50, rfl⟩ : r50 = 1 ∧ u = [((o 0), .inr (5, [.int (nI cnt), .int (nI (B.1)), .int (nI lv), .ref (o 1), .ref (o 2), .ref (o 3), .ref (o 4), .ref (o 5), .ref (o 6), .ref (o 7), .ref (o 8), .int (bP (False)), .int (bP (True)), .int (nI p1 - 1), .int vi1, .int fa1, .int so1, .ref (o 9), .ref (o 10), .ref (o 11), .ref (o 12)])), ((o 1), .inl (cI, 8, .inl (va_cpy be dm3 0 0 8))), ((o 2), .inl (cI, 16, .inl B.kd)), ((o 3), .inl (cI, 48, .inl B.mb)), ((o 4), .inl (cI, 16, .inl B.nu)), ((o 5), .inl (cI, 4, .inl B.sz)), ((o 6), .inl (cI, 144, .inl B.en)), ((o 7), .inl (cI, 80, .inl od)), ((o 8), .inl (cI, 10, .inl om)), ((o 9), .inl (cI, 8, .inl be)), ((o 10), .inl (cI, 8, .inl ke)), ((o 11), .inl (cI, 9, .inl ch1)), ((o 12), .inl (cI, 9, .inl tr1))] := by
                rcases q50 with h9 | h9
                · exact absurd h4 h9.1
                · exact h9.2
              have G : Gw D A zs.heap H locs [((o 0), .inr (5, [.int (nI cnt), .int (nI (B.1)), .int (nI lv), .ref (o 1), .ref (o 2), .ref (o 3), .ref (o 4), .ref (o 5), .ref (o 6), .ref (o 7), .ref (o 8), .int (bP (False)), .int (bP (True)), .int (nI p1 - 1), .int vi1, .int fa1, .int so1, .ref (o 9), .ref (o 10), .ref (o 11), .ref (o 12)])), ((o 1), .inl (cI, 8, .inl (va_cpy be dm3 0 0 8))), ((o 2), .inl (cI, 16, .inl B.kd)), ((o 3), .inl (cI, 48, .inl B.mb)), ((o 4), .inl (cI, 16, .inl B.nu)), ((o 5), .inl (cI, 4, .inl B.sz)), ((o 6), .inl (cI, 144, .inl B.en)), ((o 7), .inl (cI, 80, .inl od)), ((o 8), .inl (cI, 10, .inl om)), ((o 9), .inl (cI, 8, .inl be)), ((o 10), .inl (cI, 8, .inl ke)), ((o 11), .inl (cI, 9, .inl ch1)), ((o 12), .inl (cI, 9, .inl tr1))] := G.sub [0, 1, 2, 3, 4, 5, 6, 7, 8, 9, 10, 11, 12] (by decide) rfl
              refine lv_pop hx hb d_MO_advance_53 rfl ?_
              refine lv_iload_n hx hb d_MO_advance_54 rfl (lv_at hl 1 rfl) ?_
              exact z_ret X hrt hlk G (rfl) (Or.inr ⟨⟨h4, h15⟩, nn, gt, p1, vi1, fa1, so1, dr1, br1, un1, dm1, ch1, tr1, dm3, hnx, by omega, hAll, rfl, by first | exact Or.inl ⟨by omega, hR3, rfl⟩ | exact Or.inr ⟨hg0, h0, rfl⟩⟩) d_MO_advance_55
          · skip
            refine lv_iload_n hx hb d_MO_advance_29 rfl (lv_at hl 1 rfl) ?_
            refine lv_iconst (v := (nI 1)) hx hb d_MO_advance_30 (by decide) ?_
            refine zi_icmp_ne hx hb d_MO_advance_31 rfl (nI_toInt (by omega) : (nI gt).toInt = ((gt : Nat) : Int)) (by decide : (nI 1).toInt = 1) (fun h31 => ?_) (fun h31 => ?_)
            · skip
              have hAll : Adv cnt B nn (p, V, vi, fa, so, dr, br, un, dm) gt (p1, V1, vi1, fa1, so1, dr1, br1, un1, dm1) := by
                by_cases e9 : gt = 1
                · rw [e9]; exact (h1 e9).2.2.2 1 _ (adv_0 (by omega))
                · exact (h2 e9).1
              have hv1 : V1 := hV1 (by
                by_cases e9 : gt = 1
                · omega
                · exact (h2 e9).2)
              have ev1 : V1 = True := eq_true hv1
              subst ev1
              refine lv_iload_n hx hb d_MO_advance_45 rfl (lv_at hl 1 rfl) ?_
              refine zi_if_ne hx hb d_MO_advance_46 rfl (nI_toInt (by omega) : (nI gt).toInt = ((gt : Nat) : Int)) (fun h46 => ?_) (fun h46 => ?_)
              · skip
                obtain ⟨hd3, hR3⟩ := h3 (by omega)
                rw [hd3] at G
                refine lv_iload_n hx hb d_MO_advance_54 rfl (lv_at hl 1 rfl) ?_
                exact z_ret X hrt hlk G (rfl) (Or.inr ⟨⟨h4, h15⟩, nn, gt, p1, vi1, fa1, so1, dr1, br1, un1, dm1, ch1, tr1, dm3, hnx, by omega, hAll, rfl, by first | exact Or.inl ⟨by omega, hR3, rfl⟩ | exact Or.inr ⟨hg0, h0, rfl⟩⟩) d_MO_advance_55
              · skip
                have hg0 : gt = 0 := by omega
                refine lv_aload_n hx hb d_MO_advance_49 rfl (lv_at hl 3 rfl) ?_
                refine zV_I (wr := []) X G (m_stop l D cI o cnt lv B dm3 od om be ke ch1 tr1 U True (nI p1 - 1) vi1 fa1 so1) lk_MO_143 [0, 1, 2, 3, 4, 5, 6, 7, 8, 9, 10, 11, 12] rfl (by decide) [] rfl (by decide) (by decide) 0 rfl rfl ⟨by decide, by decide⟩ ⟨Nat.zero_le _, Nat.zero_le _⟩ hl.1 rfl (Nat.le_of_ble_eq_true rfl) d_MO_advance_50 (fun r50 u H locs q50 G => ?_)
                obtain ⟨hr50, rfl⟩ : r50 = 1 ∧ u = [((o 0), .inr (5, [.int (nI cnt), .int (nI (B.1)), .int (nI lv), .ref (o 1), .ref (o 2), .ref (o 3), .ref (o 4), .ref (o 5), .ref (o 6), .ref (o 7), .ref (o 8), .int (bP (False)), .int (bP (True)), .int (nI p1 - 1), .int vi1, .int fa1, .int so1, .ref (o 9), .ref (o 10), .ref (o 11), .ref (o 12)])), ((o 1), .inl (cI, 8, .inl (va_cpy be dm3 0 0 8))), ((o 2), .inl (cI, 16, .inl B.kd)), ((o 3), .inl (cI, 48, .inl B.mb)), ((o 4), .inl (cI, 16, .inl B.nu)), ((o 5), .inl (cI, 4, .inl B.sz)), ((o 6), .inl (cI, 144, .inl B.en)), ((o 7), .inl (cI, 80, .inl od)), ((o 8), .inl (cI, 10, .inl om)), ((o 9), .inl (cI, 8, .inl be)), ((o 10), .inl (cI, 8, .inl ke)), ((o 11), .inl (cI, 9, .inl ch1)), ((o 12), .inl (cI, 9, .inl tr1))] := by
                  rcases q50 with h9 | h9
                  · exact absurd h4 h9.1
                  · exact h9.2
                have G : Gw D A zs.heap H locs [((o 0), .inr (5, [.int (nI cnt), .int (nI (B.1)), .int (nI lv), .ref (o 1), .ref (o 2), .ref (o 3), .ref (o 4), .ref (o 5), .ref (o 6), .ref (o 7), .ref (o 8), .int (bP (False)), .int (bP (True)), .int (nI p1 - 1), .int vi1, .int fa1, .int so1, .ref (o 9), .ref (o 10), .ref (o 11), .ref (o 12)])), ((o 1), .inl (cI, 8, .inl (va_cpy be dm3 0 0 8))), ((o 2), .inl (cI, 16, .inl B.kd)), ((o 3), .inl (cI, 48, .inl B.mb)), ((o 4), .inl (cI, 16, .inl B.nu)), ((o 5), .inl (cI, 4, .inl B.sz)), ((o 6), .inl (cI, 144, .inl B.en)), ((o 7), .inl (cI, 80, .inl od)), ((o 8), .inl (cI, 10, .inl om)), ((o 9), .inl (cI, 8, .inl be)), ((o 10), .inl (cI, 8, .inl ke)), ((o 11), .inl (cI, 9, .inl ch1)), ((o 12), .inl (cI, 9, .inl tr1))] := G.sub [0, 1, 2, 3, 4, 5, 6, 7, 8, 9, 10, 11, 12] (by decide) rfl
                refine lv_pop hx hb d_MO_advance_53 rfl ?_
                refine lv_iload_n hx hb d_MO_advance_54 rfl (lv_at hl 1 rfl) ?_
                exact z_ret X hrt hlk G (rfl) (Or.inr ⟨⟨h4, h15⟩, nn, gt, p1, vi1, fa1, so1, dr1, br1, un1, dm1, ch1, tr1, dm3, hnx, by omega, hAll, rfl, by first | exact Or.inl ⟨by omega, hR3, rfl⟩ | exact Or.inr ⟨hg0, h0, rfl⟩⟩) d_MO_advance_55
            · skip
              obtain ⟨hT1, hR1, hd3, hA⟩ := h1 (by omega)
              refine lv_aload_n hx hb d_MO_advance_34 rfl (lv_at hl 3 rfl) ?_
              rw [hd3] at G
              refine zV_I (wr := []) X G (m_visit l D cI o cnt lv B dm1 od om be ke ch1 tr1 U V1 (nI p1 - 1) vi1 fa1 so1 hB p1 dr1 br1 un1 hT1 hR1 rfl) lk_MO_140 [0, 1, 2, 3, 4, 5, 6, 7, 8, 9, 10, 11, 12] rfl (by decide) [] rfl (by decide) (by decide) 0 rfl rfl ⟨by decide, by decide⟩ ⟨Nat.zero_le _, Nat.zero_le _⟩ hl.1 rfl (Nat.le_of_ble_eq_true rfl) d_MO_advance_35 (fun r35 u H locs q35 G => ?_)
              obtain ⟨rr, p2, vi2, fa2, so2, dr2, br2, un2, dm2, ch2, tr2, dm4, hTs, hrr, hr2, rfl, hne, heq⟩ := q35
              have G : Gw D A zs.heap H locs [((o 0), .inr (5, [.int (nI cnt), .int (nI (B.1)), .int (nI lv), .ref (o 1), .ref (o 2), .ref (o 3), .ref (o 4), .ref (o 5), .ref (o 6), .ref (o 7), .ref (o 8), .int (bP (U)), .int (bP (True)), .int (nI p2 - 1), .int vi2, .int fa2, .int so2, .ref (o 9), .ref (o 10), .ref (o 11), .ref (o 12)])), ((o 1), .inl (cI, 8, .inl dm4)), ((o 2), .inl (cI, 16, .inl B.kd)), ((o 3), .inl (cI, 48, .inl B.mb)), ((o 4), .inl (cI, 16, .inl B.nu)), ((o 5), .inl (cI, 4, .inl B.sz)), ((o 6), .inl (cI, 144, .inl B.en)), ((o 7), .inl (cI, 80, .inl od)), ((o 8), .inl (cI, 10, .inl om)), ((o 9), .inl (cI, 8, .inl be)), ((o 10), .inl (cI, 8, .inl ke)), ((o 11), .inl (cI, 9, .inl ch2)), ((o 12), .inl (cI, 9, .inl tr2))] := G.sub [0, 1, 2, 3, 4, 5, 6, 7, 8, 9, 10, 11, 12] (by decide) rfl
              refine z_top (nI rr) (hrr) ?_
              refine lv_istore_n hx hb d_MO_advance_38 rfl hl (by decide) rfl (fun ls hl => ?_)
              have hl : lv_has ls 4 [(2, .int (nI rr)), (3, .int (nI kk)), (1, .int (nI nn)), (0, .ref (o 0))] := hl
              refine lv_iinc (v := (nI (kk + 1))) hx hb d_MO_advance_39 hl (k := 1) rfl (nI_1 kk) (by decide) rfl (fun ls hl => ?_)
              have hl : lv_has ls 4 [(3, .int (nI (kk + 1))), (2, .int (nI rr)), (1, .int (nI nn)), (0, .ref (o 0))] := hl
              refine lv_goto hx hb d_MO_advance_42 rfl ?_
              have hl : lv_has ls 4 [(3, .int (nI (kk + 1))), (2, .int (nI rr)), (1, .int (nI nn)), (0, .ref (o 0))] := lv_sub hl [0, 1, 2, 3] rfl
              exact lp (kk + 1) rr True p2 vi2 fa2 so2 dr2 br2 un2 dm2 ch2 tr2 dm4 (by omega) hr2 (fun _ => trivial) (fun e9 => ⟨(hne (by omega)).2.2, (hne (by omega)).2.1, (hne (by omega)).1, fun r9 t9 g9 => hA r9 t9 (adv_s1 (by omega) (by rw [e9] at hTs; exact hTs) (by rw [show nn - kk - 1 = nn - (kk + 1) by omega]; exact g9))⟩) (fun e9 => ⟨hA _ _ (adv_s0 (by omega) hTs e9), by omega⟩) (fun e9 => ⟨(hne e9).1, (hne e9).2.1⟩) (fun x h9 => by by_cases e9 : rr = 0; exact heq e9 x h9; rw [(hne e9).1, (hne e9).2.2.2.1]; exact rwf_out h9) (by omega) _ _ _ G hl
      have hl : lv_has ls 4 [(3, .int (nI 0)), (2, .int (nI 1)), (1, .int (nI nn)), (0, .ref (o 0))] := lv_sub hl [0, 1, 3, 2] rfl
      exact lp _ 0 1 V p vi fa so dr br un dm ch tr dm (by omega) (by omega) (fun h9 => absurd h9 (Nat.lt_irrefl 0)) (fun _ => ⟨hT h4, hR h4, rfl, fun _ _ h9 => h9⟩) (fun h9 => absurd rfl h9) (fun _ => ⟨rfl, hR h4⟩) (fun x h9 => by rw [(hT h4).2.1]; exact rwf_out h9) (Nat.lt_succ_self _) _ _ _ G hl
    · skip
      refine lv_iconst (v := (-1)) hx hb d_MO_advance_18 (by decide) ?_
      exact z_ret X hrt hlk G (rfl) (Or.inl ⟨by first | exact fun h9 => h4 h9.1 | exact fun h9 => h15 h9.2, rfl, rfl⟩) d_MO_advance_19
