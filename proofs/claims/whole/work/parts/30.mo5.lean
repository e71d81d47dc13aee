set_option maxHeartbeats 4000000 in
set_option maxRecDepth 100000 in
theorem m_opn (l : Launch) (D : va_G) (cI : ClassId) (o : Nat → Nat) (cnt lv : Nat) (B : Bk) (dm od om be ke ch tr : Nat → Int32) (U V : Prop) (de vi fa so : Int32) (hB : BOk cnt B) (k x : Nat) (hkn : k < B.1) (hx8 : x < 8) : MR l y_MO_open b_MO_open 7 .boolean 1 D cI [.ref (o 0), .int (nI k), .int (nI x)] [((o 0), .inr (5, [.int (nI cnt), .int (nI (B.1)), .int (nI lv), .ref (o 1), .ref (o 2), .ref (o 3), .ref (o 4), .ref (o 5), .ref (o 6), .ref (o 7), .ref (o 8), .int (bP (U)), .int (bP (V)), .int de, .int vi, .int fa, .int so, .ref (o 9), .ref (o 10), .ref (o 11), .ref (o 12)])), ((o 1), .inl (cI, 8, .inl dm)), ((o 2), .inl (cI, 16, .inl B.kd)), ((o 3), .inl (cI, 48, .inl B.mb)), ((o 4), .inl (cI, 16, .inl B.nu)), ((o 5), .inl (cI, 4, .inl B.sz)), ((o 6), .inl (cI, 144, .inl B.en)), ((o 7), .inl (cI, 80, .inl od)), ((o 8), .inl (cI, 10, .inl om)), ((o 9), .inl (cI, 8, .inl be)), ((o 10), .inl (cI, 8, .inl ke)), ((o 11), .inl (cI, 9, .inl ch)), ((o 12), .inl (cI, 9, .inl tr))] (bP (opR B dm k x)) := by
  refine MI.of (by decide) (Nat.le_of_ble_eq_true rfl) ?_
  intro zp ze zs zm zb zt zc ls A X hrt hlk G hl
  have hx := X.1
  have hb := X.2.1
  have hl : lv_has ls 7 [(0, .ref (o 0)), (1, .int (nI k)), (2, .int (nI x))] := hl
  have hc8 := hB.1
  have hn16 := hB.2.1
  refine lv_iconst (v := (nI 0)) hx hb d_MO_open_0 (by decide) ?_
  refine lv_istore_n hx hb d_MO_open_1 rfl hl (by decide) rfl (fun ls hl => ?_)
  have hl : lv_has ls 7 [(3, .int (nI 0)), (0, .ref (o 0)), (1, .int (nI k)), (2, .int (nI x))] := hl
  refine lv_iconst (v := (nI 0)) hx hb d_MO_open_2 (by decide) ?_
  refine lv_istore hx hb d_MO_open_3 hl (by decide) rfl (fun ls hl => ?_)
  have hl : lv_has ls 7 [(4, .int (nI 0)), (3, .int (nI 0)), (0, .ref (o 0)), (1, .int (nI k)), (2, .int (nI x))] := hl
  refine lv_iconst (v := (nI 0)) hx hb d_MO_open_5 (by decide) ?_
  refine lv_istore hx hb d_MO_open_6 hl (by decide) rfl (fun ls hl => ?_)
  have hl : lv_has ls 7 [(5, .int (nI 0)), (4, .int (nI 0)), (3, .int (nI 0)), (0, .ref (o 0)), (1, .int (nI k)), (2, .int (nI x))] := hl
  have lp : ∀ (fu : Nat) (t : Nat) (ht : t ≤ 3) (hfu : 3 - t < fu) (H : Heap) (locs : List Loc) (ls : Array Slot), Gw D A zs.heap H locs [((o 0), .inr (5, [.int (nI cnt), .int (nI (B.1)), .int (nI lv), .ref (o 1), .ref (o 2), .ref (o 3), .ref (o 4), .ref (o 5), .ref (o 6), .ref (o 7), .ref (o 8), .int (bP (U)), .int (bP (V)), .int de, .int vi, .int fa, .int so, .ref (o 9), .ref (o 10), .ref (o 11), .ref (o 12)])), ((o 1), .inl (cI, 8, .inl dm)), ((o 2), .inl (cI, 16, .inl B.kd)), ((o 3), .inl (cI, 48, .inl B.mb)), ((o 4), .inl (cI, 16, .inl B.nu)), ((o 5), .inl (cI, 4, .inl B.sz)), ((o 6), .inl (cI, 144, .inl B.en)), ((o 7), .inl (cI, 80, .inl od)), ((o 8), .inl (cI, 10, .inl om)), ((o 9), .inl (cI, 8, .inl be)), ((o 10), .inl (cI, 8, .inl ke)), ((o 11), .inl (cI, 9, .inl ch)), ((o 12), .inl (cI, 9, .inl tr))] → lv_has ls 7 [(5, .int (nI t)), (3, .int (bP (hrP B k x t))), (4, .int (bP (otP B dm k x t))), (0, .ref (o 0)), (1, .int (nI k)), (2, .int (nI x))] → W zp l ze (zr 1) zs zm ([.ref (o 0), .int (nI k), .int (nI x)] : List Value).toArray zb zt zc H locs 0 0 (ZI D zb ([.ref (o 0), .int (nI k), .int (nI x)] : List Value) zs A (fun r_ u_ => r_ = (bP (opR B dm k x)) ∧ u_ = [((o 0), .inr (5, [.int (nI cnt), .int (nI (B.1)), .int (nI lv), .ref (o 1), .ref (o 2), .ref (o 3), .ref (o 4), .ref (o 5), .ref (o 6), .ref (o 7), .ref (o 8), .int (bP (U)), .int (bP (V)), .int de, .int vi, .int fa, .int so, .ref (o 9), .ref (o 10), .ref (o 11), .ref (o 12)])), ((o 1), .inl (cI, 8, .inl dm)), ((o 2), .inl (cI, 16, .inl B.kd)), ((o 3), .inl (cI, 48, .inl B.mb)), ((o 4), .inl (cI, 16, .inl B.nu)), ((o 5), .inl (cI, 4, .inl B.sz)), ((o 6), .inl (cI, 144, .inl B.en)), ((o 7), .inl (cI, 80, .inl od)), ((o 8), .inl (cI, 10, .inl om)), ((o 9), .inl (cI, 8, .inl be)), ((o 10), .inl (cI, 8, .inl ke)), ((o 11), .inl (cI, 9, .inl ch)), ((o 12), .inl (cI, 9, .inl tr))])) (F0 zm 8 ls []) := by
    intro fu
    induction fu with
    | zero => intro t ht hfu; exact absurd hfu (Nat.not_lt_zero _)
    | succ fu lp =>
      intro t ht hfu H locs ls G hl
      refine lv_iload hx hb d_MO_open_8 (lv_at hl 0 rfl) ?_
      refine lv_iconst (v := (nI 3)) hx hb d_MO_open_10 (by decide) ?_
      refine zi_icmp_ge hx hb d_MO_open_11 rfl (nI_toInt (by omega) : (nI t).toInt = ((t : Nat) : Int)) (by decide : (nI 3).toInt = 3) (fun h11 => ?_) (fun h11 => ?_)
      · skip
        refine lv_iload_n hx hb d_MO_open_87 rfl (lv_at hl 1 rfl) ?_
        have ht3 : t = 3 := by omega
        have hop : opR B dm k x ↔ hrP B k x t ∧ otP B dm k x t := by rw [ht3]; exact op_ho
        refine zb_eq hx hb d_MO_open_88 rfl (fun h88 => ?_) (fun h88 => ?_)
        · skip
          refine lv_iconst (v := (nI 0)) hx hb d_MO_open_100 (by decide) ?_
          exact z_ret X hrt hlk G (rfl) (⟨bP_0 (by first | exact hop.mpr ⟨h88, h93⟩ | exact fun h9 => h88 (hop.mp h9).1 | exact fun h9 => h93 (hop.mp h9).2), rfl⟩) d_MO_open_101
        · skip
          refine lv_iload hx hb d_MO_open_91 (lv_at hl 2 rfl) ?_
          refine zb_eq hx hb d_MO_open_93 rfl (fun h93 => ?_) (fun h93 => ?_)
          · skip
            refine lv_iconst (v := (nI 0)) hx hb d_MO_open_100 (by decide) ?_
            exact z_ret X hrt hlk G (rfl) (⟨bP_0 (by first | exact hop.mpr ⟨h88, h93⟩ | exact fun h9 => h88 (hop.mp h9).1 | exact fun h9 => h93 (hop.mp h9).2), rfl⟩) d_MO_open_101
          · skip
            refine lv_iconst (v := (nI 1)) hx hb d_MO_open_96 (by decide) ?_
            refine lv_goto hx hb d_MO_open_97 rfl ?_
            exact z_ret X hrt hlk G (rfl) (⟨bP_1 (by first | exact hop.mpr ⟨h88, h93⟩ | exact fun h9 => h88 (hop.mp h9).1 | exact fun h9 => h93 (hop.mp h9).2), rfl⟩) d_MO_open_101
      · skip
        refine lv_aload_n hx hb d_MO_open_14 rfl (lv_at hl 3 rfl) ?_
        refine gf_MO_16 X G 0 rfl rfl d_MO_open_15 ?_
        refine lv_iconst (v := (nI 3)) hx hb d_MO_open_18 (by decide) ?_
        refine lv_iload_n hx hb d_MO_open_19 rfl (lv_at hl 4 rfl) ?_
        refine zn_mul hx hb d_MO_open_20 ?_
        refine lv_iload hx hb d_MO_open_21 (lv_at hl 0 rfl) ?_
        refine zn_add hx hb d_MO_open_23 ?_
        refine z_iald X G 3 rfl ((3 * k) + t) (rfl) (by omega) (by decide) d_MO_open_24 ?_
        refine lv_istore hx hb d_MO_open_25 hl (by decide) rfl (fun ls hl => ?_)
        have hl : lv_has ls 7 [(6, .int (B.mb ((3 * k) + t))), (5, .int (nI t)), (3, .int (bP (hrP B k x t))), (4, .int (bP (otP B dm k x t))), (0, .ref (o 0)), (1, .int (nI k)), (2, .int (nI x))] := hl
        have jn : ∀  (H : Heap) (locs : List Loc) (ls : Array Slot), Gw D A zs.heap H locs [((o 0), .inr (5, [.int (nI cnt), .int (nI (B.1)), .int (nI lv), .ref (o 1), .ref (o 2), .ref (o 3), .ref (o 4), .ref (o 5), .ref (o 6), .ref (o 7), .ref (o 8), .int (bP (U)), .int (bP (V)), .int de, .int vi, .int fa, .int so, .ref (o 9), .ref (o 10), .ref (o 11), .ref (o 12)])), ((o 1), .inl (cI, 8, .inl dm)), ((o 2), .inl (cI, 16, .inl B.kd)), ((o 3), .inl (cI, 48, .inl B.mb)), ((o 4), .inl (cI, 16, .inl B.nu)), ((o 5), .inl (cI, 4, .inl B.sz)), ((o 6), .inl (cI, 144, .inl B.en)), ((o 7), .inl (cI, 80, .inl od)), ((o 8), .inl (cI, 10, .inl om)), ((o 9), .inl (cI, 8, .inl be)), ((o 10), .inl (cI, 8, .inl ke)), ((o 11), .inl (cI, 9, .inl ch)), ((o 12), .inl (cI, 9, .inl tr))] → lv_has ls 7 [(3, .int (bP (hrP B k x (t + 1)))), (6, .int (B.mb (3 * k + t))), (4, .int (bP (otP B dm k x t))), (5, .int (nI t)), (0, .ref (o 0)), (1, .int (nI k)), (2, .int (nI x))] → W zp l ze (zr 1) zs zm ([.ref (o 0), .int (nI k), .int (nI x)] : List Value).toArray zb zt zc H locs 0 0 (ZI D zb ([.ref (o 0), .int (nI k), .int (nI x)] : List Value) zs A (fun r_ u_ => r_ = (bP (opR B dm k x)) ∧ u_ = [((o 0), .inr (5, [.int (nI cnt), .int (nI (B.1)), .int (nI lv), .ref (o 1), .ref (o 2), .ref (o 3), .ref (o 4), .ref (o 5), .ref (o 6), .ref (o 7), .ref (o 8), .int (bP (U)), .int (bP (V)), .int de, .int vi, .int fa, .int so, .ref (o 9), .ref (o 10), .ref (o 11), .ref (o 12)])), ((o 1), .inl (cI, 8, .inl dm)), ((o 2), .inl (cI, 16, .inl B.kd)), ((o 3), .inl (cI, 48, .inl B.mb)), ((o 4), .inl (cI, 16, .inl B.nu)), ((o 5), .inl (cI, 4, .inl B.sz)), ((o 6), .inl (cI, 144, .inl B.en)), ((o 7), .inl (cI, 80, .inl od)), ((o 8), .inl (cI, 10, .inl om)), ((o 9), .inl (cI, 8, .inl be)), ((o 10), .inl (cI, 8, .inl ke)), ((o 11), .inl (cI, 9, .inl ch)), ((o 12), .inl (cI, 9, .inl tr))])) (F0 zm 43 ls []) := by
          intro  H locs ls G hl
          refine lv_iload hx hb d_MO_open_43 (lv_at hl 2 rfl) ?_
          refine zb_ne hx hb d_MO_open_45 rfl (fun h45 => ?_) (fun h45 => ?_)
          · skip
            have hz2 : otP B dm k x (t + 1) := ot_s.mpr (Or.inl h45)
            refine lv_iconst (v := (nI 1)) hx hb d_MO_open_74 (by decide) ?_
            refine lv_goto hx hb d_MO_open_75 rfl ?_
            refine lv_istore hx hb d_MO_open_79 hl (by decide) rfl (fun ls hl => ?_)
            have hl : lv_has ls 7 [(4, .int (nI 1)), (3, .int (bP (hrP B k x (t + 1)))), (6, .int (B.mb (3 * k + t))), (5, .int (nI t)), (0, .ref (o 0)), (1, .int (nI k)), (2, .int (nI x))] := hl
            refine lv_iinc (v := (nI (t + 1))) hx hb d_MO_open_81 hl (k := 3) rfl (nI_1 t) (by decide) rfl (fun ls hl => ?_)
            have hl : lv_has ls 7 [(5, .int (nI (t + 1))), (4, .int (nI 1)), (3, .int (bP (hrP B k x (t + 1)))), (6, .int (B.mb (3 * k + t))), (0, .ref (o 0)), (1, .int (nI k)), (2, .int (nI x))] := hl
            refine lv_goto hx hb d_MO_open_84 rfl ?_
            have hl : lv_has ls 7 [(5, .int (nI (t + 1))), (3, .int (bP (hrP B k x (t + 1)))), (4, .int (nI 1)), (0, .ref (o 0)), (1, .int (nI k)), (2, .int (nI x))] := lv_sub hl [0, 2, 1, 4, 5, 6] rfl
            have hl : lv_has ls 7 [(5, .int (nI (t + 1))), (3, .int (bP (hrP B k x (t + 1)))), (4, .int (bP (otP B dm k x (t + 1)))), (0, .ref (o 0)), (1, .int (nI k)), (2, .int (nI x))] := by rw [bP_t hz2]; exact hl
            exact lp (t + 1) (by omega) (by omega) _ _ _ G hl
          · skip
            refine lv_iload hx hb d_MO_open_48 (lv_at hl 1 rfl) ?_
            refine zi_if_lt hx hb d_MO_open_50 rfl rfl (fun h50 => ?_) (fun h50 => ?_)
            · skip
              have hz2 : ¬ otP B dm k x (t + 1) := fun h9 => (ot_s.mp h9).elim h45 (fun h8 => h8.1.2.2 h50)
              refine lv_iconst (v := (nI 0)) hx hb d_MO_open_78 (by decide) ?_
              refine lv_istore hx hb d_MO_open_79 hl (by decide) rfl (fun ls hl => ?_)
              have hl : lv_has ls 7 [(4, .int (nI 0)), (3, .int (bP (hrP B k x (t + 1)))), (6, .int (B.mb (3 * k + t))), (5, .int (nI t)), (0, .ref (o 0)), (1, .int (nI k)), (2, .int (nI x))] := hl
              refine lv_iinc (v := (nI (t + 1))) hx hb d_MO_open_81 hl (k := 3) rfl (nI_1 t) (by decide) rfl (fun ls hl => ?_)
              have hl : lv_has ls 7 [(5, .int (nI (t + 1))), (4, .int (nI 0)), (3, .int (bP (hrP B k x (t + 1)))), (6, .int (B.mb (3 * k + t))), (0, .ref (o 0)), (1, .int (nI k)), (2, .int (nI x))] := hl
              refine lv_goto hx hb d_MO_open_84 rfl ?_
              have hl : lv_has ls 7 [(5, .int (nI (t + 1))), (3, .int (bP (hrP B k x (t + 1)))), (4, .int (nI 0)), (0, .ref (o 0)), (1, .int (nI k)), (2, .int (nI x))] := lv_sub hl [0, 2, 1, 4, 5, 6] rfl
              have hl : lv_has ls 7 [(5, .int (nI (t + 1))), (3, .int (bP (hrP B k x (t + 1)))), (4, .int (bP (otP B dm k x (t + 1)))), (0, .ref (o 0)), (1, .int (nI k)), (2, .int (nI x))] := by rw [bP_f hz2]; exact hl
              exact lp (t + 1) (by omega) (by omega) _ _ _ G hl
            · skip
              have hp : Pl B k t := ⟨hkn, by omega, by omega⟩
              have hvx := Pl.vx hB hp
              rw [hvx.2] at hl
              have hp16 := pcn_le (dm (B.vx k t))
              refine lv_iload hx hb d_MO_open_53 (lv_at hl 1 rfl) ?_
              refine lv_iload_n hx hb d_MO_open_55 rfl (lv_at hl 6 rfl) ?_
              refine zi_icmp_eq hx hb d_MO_open_56 rfl (nI_toInt (by omega) : (nI (B.vx k t)).toInt = ((B.vx k t : Nat) : Int)) (nI_toInt (by omega) : (nI x).toInt = ((x : Nat) : Int)) (fun h56 => ?_) (fun h56 => ?_)
              · skip
                have hz2 : ¬ otP B dm k x (t + 1) := fun h9 => (ot_s.mp h9).elim h45 (fun h8 => h8.2.1 (by omega))
                refine lv_iconst (v := (nI 0)) hx hb d_MO_open_78 (by decide) ?_
                refine lv_istore hx hb d_MO_open_79 hl (by decide) rfl (fun ls hl => ?_)
                have hl : lv_has ls 7 [(4, .int (nI 0)), (3, .int (bP (hrP B k x (t + 1)))), (6, .int (nI (B.vx k t))), (5, .int (nI t)), (0, .ref (o 0)), (1, .int (nI k)), (2, .int (nI x))] := hl
                refine lv_iinc (v := (nI (t + 1))) hx hb d_MO_open_81 hl (k := 3) rfl (nI_1 t) (by decide) rfl (fun ls hl => ?_)
                have hl : lv_has ls 7 [(5, .int (nI (t + 1))), (4, .int (nI 0)), (3, .int (bP (hrP B k x (t + 1)))), (6, .int (nI (B.vx k t))), (0, .ref (o 0)), (1, .int (nI k)), (2, .int (nI x))] := hl
                refine lv_goto hx hb d_MO_open_84 rfl ?_
                have hl : lv_has ls 7 [(5, .int (nI (t + 1))), (3, .int (bP (hrP B k x (t + 1)))), (4, .int (nI 0)), (0, .ref (o 0)), (1, .int (nI k)), (2, .int (nI x))] := lv_sub hl [0, 2, 1, 4, 5, 6] rfl
                have hl : lv_has ls 7 [(5, .int (nI (t + 1))), (3, .int (bP (hrP B k x (t + 1)))), (4, .int (bP (otP B dm k x (t + 1)))), (0, .ref (o 0)), (1, .int (nI k)), (2, .int (nI x))] := by rw [bP_f hz2]; exact hl
                exact lp (t + 1) (by omega) (by omega) _ _ _ G hl
              · skip
                refine lv_aload_n hx hb d_MO_open_59 rfl (lv_at hl 4 rfl) ?_
                refine lv_aload_n hx hb d_MO_open_60 rfl (lv_at hl 4 rfl) ?_
                refine gf_MO_7 X G 0 rfl rfl d_MO_open_61 ?_
                refine lv_iload hx hb d_MO_open_64 (lv_at hl 1 rfl) ?_
                refine z_iald X G 1 rfl (B.vx k t) (rfl) (by omega) (by decide) d_MO_open_66 ?_
                refine zV_R X G (m_many l D cI o cnt lv B dm od om be ke ch tr U V de vi fa so (dm (B.vx k t))) lk_MO_95 [0, 1, 2, 3, 4, 5, 6, 7, 8, 9, 10, 11, 12] rfl (by decide) 0 rfl rfl ⟨by decide, by decide⟩ ⟨Nat.zero_le _, Nat.zero_le _⟩ hl.1 rfl (Nat.le_of_ble_eq_true rfl) d_MO_open_67 (fun H locs G => ?_)
                refine lv_iconst (v := (nI 1)) hx hb d_MO_open_70 (by decide) ?_
                refine zi_icmp_le hx hb d_MO_open_71 rfl (nI_toInt (by omega) : (nI (pcn (dm (B.vx k t)))).toInt = ((pcn (dm (B.vx k t)) : Nat) : Int)) (by decide : (nI 1).toInt = 1) (fun h71 => ?_) (fun h71 => ?_)
                · skip
                  have hz2 : ¬ otP B dm k x (t + 1) := fun h9 => (ot_s.mp h9).elim h45 (fun h8 => absurd h8.2.2 (by omega))
                  refine lv_iconst (v := (nI 0)) hx hb d_MO_open_78 (by decide) ?_
                  refine lv_istore hx hb d_MO_open_79 hl (by decide) rfl (fun ls hl => ?_)
                  have hl : lv_has ls 7 [(4, .int (nI 0)), (3, .int (bP (hrP B k x (t + 1)))), (6, .int (nI (B.vx k t))), (5, .int (nI t)), (0, .ref (o 0)), (1, .int (nI k)), (2, .int (nI x))] := hl
                  refine lv_iinc (v := (nI (t + 1))) hx hb d_MO_open_81 hl (k := 3) rfl (nI_1 t) (by decide) rfl (fun ls hl => ?_)
                  have hl : lv_has ls 7 [(5, .int (nI (t + 1))), (4, .int (nI 0)), (3, .int (bP (hrP B k x (t + 1)))), (6, .int (nI (B.vx k t))), (0, .ref (o 0)), (1, .int (nI k)), (2, .int (nI x))] := hl
                  refine lv_goto hx hb d_MO_open_84 rfl ?_
                  have hl : lv_has ls 7 [(5, .int (nI (t + 1))), (3, .int (bP (hrP B k x (t + 1)))), (4, .int (nI 0)), (0, .ref (o 0)), (1, .int (nI k)), (2, .int (nI x))] := lv_sub hl [0, 2, 1, 4, 5, 6] rfl
                  have hl : lv_has ls 7 [(5, .int (nI (t + 1))), (3, .int (bP (hrP B k x (t + 1)))), (4, .int (bP (otP B dm k x (t + 1)))), (0, .ref (o 0)), (1, .int (nI k)), (2, .int (nI x))] := by rw [bP_f hz2]; exact hl
                  exact lp (t + 1) (by omega) (by omega) _ _ _ G hl
                · skip
                  have hz2 : otP B dm k x (t + 1) := ot_s.mpr (Or.inr ⟨hp, by omega, by omega⟩)
                  refine lv_iconst (v := (nI 1)) hx hb d_MO_open_74 (by decide) ?_
                  refine lv_goto hx hb d_MO_open_75 rfl ?_
                  refine lv_istore hx hb d_MO_open_79 hl (by decide) rfl (fun ls hl => ?_)
                  have hl : lv_has ls 7 [(4, .int (nI 1)), (3, .int (bP (hrP B k x (t + 1)))), (6, .int (nI (B.vx k t))), (5, .int (nI t)), (0, .ref (o 0)), (1, .int (nI k)), (2, .int (nI x))] := hl
                  refine lv_iinc (v := (nI (t + 1))) hx hb d_MO_open_81 hl (k := 3) rfl (nI_1 t) (by decide) rfl (fun ls hl => ?_)
                  have hl : lv_has ls 7 [(5, .int (nI (t + 1))), (4, .int (nI 1)), (3, .int (bP (hrP B k x (t + 1)))), (6, .int (nI (B.vx k t))), (0, .ref (o 0)), (1, .int (nI k)), (2, .int (nI x))] := hl
                  refine lv_goto hx hb d_MO_open_84 rfl ?_
                  have hl : lv_has ls 7 [(5, .int (nI (t + 1))), (3, .int (bP (hrP B k x (t + 1)))), (4, .int (nI 1)), (0, .ref (o 0)), (1, .int (nI k)), (2, .int (nI x))] := lv_sub hl [0, 2, 1, 4, 5, 6] rfl
                  have hl : lv_has ls 7 [(5, .int (nI (t + 1))), (3, .int (bP (hrP B k x (t + 1)))), (4, .int (bP (otP B dm k x (t + 1)))), (0, .ref (o 0)), (1, .int (nI k)), (2, .int (nI x))] := by rw [bP_t hz2]; exact hl
                  exact lp (t + 1) (by omega) (by omega) _ _ _ G hl
        refine lv_iload_n hx hb d_MO_open_27 rfl (lv_at hl 2 rfl) ?_
        refine zb_ne hx hb d_MO_open_28 rfl (fun h28 => ?_) (fun h28 => ?_)
        · skip
          have hz : hrP B k x (t + 1) := hr_s.mpr (Or.inl h28)
          refine lv_iconst (v := (nI 1)) hx hb d_MO_open_37 (by decide) ?_
          refine lv_goto hx hb d_MO_open_38 rfl ?_
          refine lv_istore_n hx hb d_MO_open_42 rfl hl (by decide) rfl (fun ls hl => ?_)
          have hl : lv_has ls 7 [(3, .int (nI 1)), (6, .int (B.mb ((3 * k) + t))), (5, .int (nI t)), (4, .int (bP (otP B dm k x t))), (0, .ref (o 0)), (1, .int (nI k)), (2, .int (nI x))] := hl
          have hl : lv_has ls 7 [(3, .int (nI 1)), (6, .int (B.mb ((3 * k) + t))), (4, .int (bP (otP B dm k x t))), (5, .int (nI t)), (0, .ref (o 0)), (1, .int (nI k)), (2, .int (nI x))] := lv_sub hl [0, 1, 3, 2, 4, 5, 6] rfl
          have hl : lv_has ls 7 [(3, .int (bP (hrP B k x (t + 1)))), (6, .int (B.mb (3 * k + t))), (4, .int (bP (otP B dm k x t))), (5, .int (nI t)), (0, .ref (o 0)), (1, .int (nI k)), (2, .int (nI x))] := by rw [bP_t hz]; exact hl
          exact jn   _ _ _ G hl
        · skip
          refine lv_iload hx hb d_MO_open_31 (lv_at hl 0 rfl) ?_
          refine lv_iload_n hx hb d_MO_open_33 rfl (lv_at hl 6 rfl) ?_
          refine zi_icmp_ne hx hb d_MO_open_34 rfl rfl (nI_toInt (by omega) : (nI x).toInt = ((x : Nat) : Int)) (fun h34 => ?_) (fun h34 => ?_)
          · skip
            have hz : ¬ hrP B k x (t + 1) := fun h9 => (hr_s.mp h9).elim h28 (fun h8 => h34 (by rw [(Pl.vx hB h8.1).2, h8.2, nI_toInt (by omega)]))
            refine lv_iconst (v := (nI 0)) hx hb d_MO_open_41 (by decide) ?_
            refine lv_istore_n hx hb d_MO_open_42 rfl hl (by decide) rfl (fun ls hl => ?_)
            have hl : lv_has ls 7 [(3, .int (nI 0)), (6, .int (B.mb ((3 * k) + t))), (5, .int (nI t)), (4, .int (bP (otP B dm k x t))), (0, .ref (o 0)), (1, .int (nI k)), (2, .int (nI x))] := hl
            have hl : lv_has ls 7 [(3, .int (nI 0)), (6, .int (B.mb ((3 * k) + t))), (4, .int (bP (otP B dm k x t))), (5, .int (nI t)), (0, .ref (o 0)), (1, .int (nI k)), (2, .int (nI x))] := lv_sub hl [0, 1, 3, 2, 4, 5, 6] rfl
            have hl : lv_has ls 7 [(3, .int (bP (hrP B k x (t + 1)))), (6, .int (B.mb (3 * k + t))), (4, .int (bP (otP B dm k x t))), (5, .int (nI t)), (0, .ref (o 0)), (1, .int (nI k)), (2, .int (nI x))] := by rw [bP_f hz]; exact hl
            exact jn   _ _ _ G hl
          · skip
            have hp : Pl B k t := ⟨hkn, by omega, by omega⟩
            have hz : hrP B k x (t + 1) := hr_s.mpr (Or.inr ⟨hp, (nI_eq (by have := (Pl.vx hB hp).1; omega) (by omega)).mp ((Pl.vx hB hp).2.symm.trans (t_nat h34 (by omega)))⟩)
            refine lv_iconst (v := (nI 1)) hx hb d_MO_open_37 (by decide) ?_
            refine lv_goto hx hb d_MO_open_38 rfl ?_
            refine lv_istore_n hx hb d_MO_open_42 rfl hl (by decide) rfl (fun ls hl => ?_)
            have hl : lv_has ls 7 [(3, .int (nI 1)), (6, .int (B.mb ((3 * k) + t))), (5, .int (nI t)), (4, .int (bP (otP B dm k x t))), (0, .ref (o 0)), (1, .int (nI k)), (2, .int (nI x))] := hl
            have hl : lv_has ls 7 [(3, .int (nI 1)), (6, .int (B.mb ((3 * k) + t))), (4, .int (bP (otP B dm k x t))), (5, .int (nI t)), (0, .ref (o 0)), (1, .int (nI k)), (2, .int (nI x))] := lv_sub hl [0, 1, 3, 2, 4, 5, 6] rfl
            have hl : lv_has ls 7 [(3, .int (bP (hrP B k x (t + 1)))), (6, .int (B.mb (3 * k + t))), (4, .int (bP (otP B dm k x t))), (5, .int (nI t)), (0, .ref (o 0)), (1, .int (nI k)), (2, .int (nI x))] := by rw [bP_t hz]; exact hl
            exact jn   _ _ _ G hl
  have hl : lv_has ls 7 [(5, .int (nI 0)), (3, .int (nI 0)), (4, .int (nI 0)), (0, .ref (o 0)), (1, .int (nI k)), (2, .int (nI x))] := lv_sub hl [0, 2, 1, 3, 4, 5] rfl
  have hl : lv_has ls 7 [(5, .int (nI 0)), (3, .int (bP (hrP B k x 0))), (4, .int (bP (otP B dm k x 0))), (0, .ref (o 0)), (1, .int (nI k)), (2, .int (nI x))] := by rw [bP_f hr_0, bP_f ot_0]; exact hl
  exact lp _ 0 (by omega) (Nat.lt_succ_self _) _ _ _ G hl
set_option maxHeartbeats 4000000 in
set_option maxRecDepth 100000 in
theorem m_branch (l : Launch) (D : va_G) (cI : ClassId) (o : Nat → Nat) (cnt lv : Nat) (B : Bk) (dm od om be ke ch tr : Nat → Int32) (U V : Prop) (de vi fa so : Int32) (hB : BOk cnt B) (hD : DOk cnt dm) : MR l y_MO_branch b_MO_branch 8 .int 2 D cI [.ref (o 0)] [((o 0), .inr (5, [.int (nI cnt), .int (nI (B.1)), .int (nI lv), .ref (o 1), .ref (o 2), .ref (o 3), .ref (o 4), .ref (o 5), .ref (o 6), .ref (o 7), .ref (o 8), .int (bP (U)), .int (bP (V)), .int de, .int vi, .int fa, .int so, .ref (o 9), .ref (o 10), .ref (o 11), .ref (o 12)])), ((o 1), .inl (cI, 8, .inl dm)), ((o 2), .inl (cI, 16, .inl B.kd)), ((o 3), .inl (cI, 48, .inl B.mb)), ((o 4), .inl (cI, 16, .inl B.nu)), ((o 5), .inl (cI, 4, .inl B.sz)), ((o 6), .inl (cI, 144, .inl B.en)), ((o 7), .inl (cI, 80, .inl od)), ((o 8), .inl (cI, 10, .inl om)), ((o 9), .inl (cI, 8, .inl be)), ((o 10), .inl (cI, 8, .inl ke)), ((o 11), .inl (cI, 9, .inl ch)), ((o 12), .inl (cI, 9, .inl tr))] ((bst B dm cnt).1) := by
  refine MI.of (by decide) (Nat.le_of_ble_eq_true rfl) ?_
  intro zp ze zs zm zb zt zc ls A X hrt hlk G hl
  have hx := X.1
  have hb := X.2.1
  have hl : lv_has ls 8 [(0, .ref (o 0))] := hl
  have hc8 := hB.1
  have hn16 := hB.2.1
  refine lv_iconst (v := (-1)) hx hb d_MO_branch_0 (by decide) ?_
  refine lv_istore_n hx hb d_MO_branch_1 rfl hl (by decide) rfl (fun ls hl => ?_)
  have hl : lv_has ls 8 [(1, .int (-1)), (0, .ref (o 0))] := hl
  refine lv_iconst (v := (nI 0)) hx hb d_MO_branch_2 (by decide) ?_
  refine lv_istore_n hx hb d_MO_branch_3 rfl hl (by decide) rfl (fun ls hl => ?_)
  have hl : lv_has ls 8 [(2, .int (nI 0)), (1, .int (-1)), (0, .ref (o 0))] := hl
  refine lv_iconst (v := (nI 0)) hx hb d_MO_branch_4 (by decide) ?_
  refine lv_istore_n hx hb d_MO_branch_5 rfl hl (by decide) rfl (fun ls hl => ?_)
  have hl : lv_has ls 8 [(3, .int (nI 0)), (2, .int (nI 0)), (1, .int (-1)), (0, .ref (o 0))] := hl
  refine lv_iconst (v := (nI 0)) hx hb d_MO_branch_6 (by decide) ?_
  refine lv_istore hx hb d_MO_branch_7 hl (by decide) rfl (fun ls hl => ?_)
  have hl : lv_has ls 8 [(4, .int (nI 0)), (3, .int (nI 0)), (2, .int (nI 0)), (1, .int (-1)), (0, .ref (o 0))] := hl
  have lp : ∀ (fu : Nat) (x : Nat) (hxc : x ≤ cnt) (hfu : cnt - x < fu) (H : Heap) (locs : List Loc) (ls : Array Slot), Gw D A zs.heap H locs [((o 0), .inr (5, [.int (nI cnt), .int (nI (B.1)), .int (nI lv), .ref (o 1), .ref (o 2), .ref (o 3), .ref (o 4), .ref (o 5), .ref (o 6), .ref (o 7), .ref (o 8), .int (bP (U)), .int (bP (V)), .int de, .int vi, .int fa, .int so, .ref (o 9), .ref (o 10), .ref (o 11), .ref (o 12)])), ((o 1), .inl (cI, 8, .inl dm)), ((o 2), .inl (cI, 16, .inl B.kd)), ((o 3), .inl (cI, 48, .inl B.mb)), ((o 4), .inl (cI, 16, .inl B.nu)), ((o 5), .inl (cI, 4, .inl B.sz)), ((o 6), .inl (cI, 144, .inl B.en)), ((o 7), .inl (cI, 80, .inl od)), ((o 8), .inl (cI, 10, .inl om)), ((o 9), .inl (cI, 8, .inl be)), ((o 10), .inl (cI, 8, .inl ke)), ((o 11), .inl (cI, 9, .inl ch)), ((o 12), .inl (cI, 9, .inl tr))] → lv_has ls 8 [(4, .int (nI x)), (1, .int ((bst B dm x).1)), (2, .int (nI ((bst B dm x).2.1))), (3, .int (nI ((bst B dm x).2.2))), (0, .ref (o 0))] → W zp l ze (zr 2) zs zm ([.ref (o 0)] : List Value).toArray zb zt zc H locs 0 0 (ZI D zb ([.ref (o 0)] : List Value) zs A (fun r_ u_ => r_ = ((bst B dm cnt).1) ∧ u_ = [((o 0), .inr (5, [.int (nI cnt), .int (nI (B.1)), .int (nI lv), .ref (o 1), .ref (o 2), .ref (o 3), .ref (o 4), .ref (o 5), .ref (o 6), .ref (o 7), .ref (o 8), .int (bP (U)), .int (bP (V)), .int de, .int vi, .int fa, .int so, .ref (o 9), .ref (o 10), .ref (o 11), .ref (o 12)])), ((o 1), .inl (cI, 8, .inl dm)), ((o 2), .inl (cI, 16, .inl B.kd)), ((o 3), .inl (cI, 48, .inl B.mb)), ((o 4), .inl (cI, 16, .inl B.nu)), ((o 5), .inl (cI, 4, .inl B.sz)), ((o 6), .inl (cI, 144, .inl B.en)), ((o 7), .inl (cI, 80, .inl od)), ((o 8), .inl (cI, 10, .inl om)), ((o 9), .inl (cI, 8, .inl be)), ((o 10), .inl (cI, 8, .inl ke)), ((o 11), .inl (cI, 9, .inl ch)), ((o 12), .inl (cI, 9, .inl tr))])) (F0 zm 9 ls []) := by
    intro fu
    induction fu with
    | zero => intro x hxc hfu; exact absurd hfu (Nat.not_lt_zero _)
    | succ fu lp =>
      intro x hxc hfu H locs ls G hl
      refine lv_iload hx hb d_MO_branch_9 (lv_at hl 0 rfl) ?_
      refine lv_aload_n hx hb d_MO_branch_11 rfl (lv_at hl 4 rfl) ?_
      refine gf_MO_54 X G 0 rfl rfl d_MO_branch_12 ?_
      refine zi_icmp_ge hx hb d_MO_branch_15 rfl (nI_toInt (by omega) : (nI x).toInt = ((x : Nat) : Int)) (nI_toInt (by omega) : (nI cnt).toInt = ((cnt : Nat) : Int)) (fun h15 => ?_) (fun h15 => ?_)
      · skip
        refine lv_iload_n hx hb d_MO_branch_109 rfl (lv_at hl 1 rfl) ?_
        exact z_ret X hrt hlk G (rfl) (⟨by rw [show x = cnt by omega], rfl⟩) d_MO_branch_110
      · skip
        have hbi := bst_in (D := dm) hB x (by omega)
        have hp16 := pcn_le (dm x)
        have hc16 := cor_le (D := dm) (x := x) hB
        refine lv_aload_n hx hb d_MO_branch_18 rfl (lv_at hl 4 rfl) ?_
        refine lv_aload_n hx hb d_MO_branch_19 rfl (lv_at hl 4 rfl) ?_
        refine gf_MO_7 X G 0 rfl rfl d_MO_branch_20 ?_
        refine lv_iload hx hb d_MO_branch_23 (lv_at hl 0 rfl) ?_
        refine z_iald X G 1 rfl x (rfl) (by omega) (by decide) d_MO_branch_25 ?_
        refine zV_R X G (m_many l D cI o cnt lv B dm od om be ke ch tr U V de vi fa so (dm x)) lk_MO_95 [0, 1, 2, 3, 4, 5, 6, 7, 8, 9, 10, 11, 12] rfl (by decide) 0 rfl rfl ⟨by decide, by decide⟩ ⟨Nat.zero_le _, Nat.zero_le _⟩ hl.1 rfl (Nat.le_of_ble_eq_true rfl) d_MO_branch_26 (fun H locs G => ?_)
        refine lv_istore hx hb d_MO_branch_29 hl (by decide) rfl (fun ls hl => ?_)
        have hl : lv_has ls 8 [(5, .int (nI (pcn (dm x)))), (4, .int (nI x)), (1, .int ((bst B dm x).1)), (2, .int (nI ((bst B dm x).2.1))), (3, .int (nI ((bst B dm x).2.2))), (0, .ref (o 0))] := hl
        refine lv_iconst (v := (nI 1)) hx hb d_MO_branch_31 (by decide) ?_
        refine lv_istore hx hb d_MO_branch_32 hl (by decide) rfl (fun ls hl => ?_)
        have hl : lv_has ls 8 [(6, .int (nI 1)), (5, .int (nI (pcn (dm x)))), (4, .int (nI x)), (1, .int ((bst B dm x).1)), (2, .int (nI ((bst B dm x).2.1))), (3, .int (nI ((bst B dm x).2.2))), (0, .ref (o 0))] := hl
        refine lv_iconst (v := (nI 0)) hx hb d_MO_branch_34 (by decide) ?_
        refine lv_istore hx hb d_MO_branch_35 hl (by decide) rfl (fun ls hl => ?_)
        have hl : lv_has ls 8 [(7, .int (nI 0)), (6, .int (nI 1)), (5, .int (nI (pcn (dm x)))), (4, .int (nI x)), (1, .int ((bst B dm x).1)), (2, .int (nI ((bst B dm x).2.1))), (3, .int (nI ((bst B dm x).2.2))), (0, .ref (o 0))] := hl
        have lq : ∀ (fu : Nat) (k : Nat) (hkn : k ≤ B.1) (hfu : B.1 - k < fu) (H : Heap) (locs : List Loc) (ls : Array Slot), Gw D A zs.heap H locs [((o 0), .inr (5, [.int (nI cnt), .int (nI (B.1)), .int (nI lv), .ref (o 1), .ref (o 2), .ref (o 3), .ref (o 4), .ref (o 5), .ref (o 6), .ref (o 7), .ref (o 8), .int (bP (U)), .int (bP (V)), .int de, .int vi, .int fa, .int so, .ref (o 9), .ref (o 10), .ref (o 11), .ref (o 12)])), ((o 1), .inl (cI, 8, .inl dm)), ((o 2), .inl (cI, 16, .inl B.kd)), ((o 3), .inl (cI, 48, .inl B.mb)), ((o 4), .inl (cI, 16, .inl B.nu)), ((o 5), .inl (cI, 4, .inl B.sz)), ((o 6), .inl (cI, 144, .inl B.en)), ((o 7), .inl (cI, 80, .inl od)), ((o 8), .inl (cI, 10, .inl om)), ((o 9), .inl (cI, 8, .inl be)), ((o 10), .inl (cI, 8, .inl ke)), ((o 11), .inl (cI, 9, .inl ch)), ((o 12), .inl (cI, 9, .inl tr))] → lv_has ls 8 [(7, .int (nI k)), (6, .int (nI (1 + sm k (fun k => i1 (opR B dm k x))))), (5, .int (nI (pcn (dm x)))), (4, .int (nI x)), (1, .int ((bst B dm x).1)), (2, .int (nI ((bst B dm x).2.1))), (3, .int (nI ((bst B dm x).2.2))), (0, .ref (o 0))] → W zp l ze (zr 2) zs zm ([.ref (o 0)] : List Value).toArray zb zt zc H locs 0 0 (ZI D zb ([.ref (o 0)] : List Value) zs A (fun r_ u_ => r_ = ((bst B dm cnt).1) ∧ u_ = [((o 0), .inr (5, [.int (nI cnt), .int (nI (B.1)), .int (nI lv), .ref (o 1), .ref (o 2), .ref (o 3), .ref (o 4), .ref (o 5), .ref (o 6), .ref (o 7), .ref (o 8), .int (bP (U)), .int (bP (V)), .int de, .int vi, .int fa, .int so, .ref (o 9), .ref (o 10), .ref (o 11), .ref (o 12)])), ((o 1), .inl (cI, 8, .inl dm)), ((o 2), .inl (cI, 16, .inl B.kd)), ((o 3), .inl (cI, 48, .inl B.mb)), ((o 4), .inl (cI, 16, .inl B.nu)), ((o 5), .inl (cI, 4, .inl B.sz)), ((o 6), .inl (cI, 144, .inl B.en)), ((o 7), .inl (cI, 80, .inl od)), ((o 8), .inl (cI, 10, .inl om)), ((o 9), .inl (cI, 8, .inl be)), ((o 10), .inl (cI, 8, .inl ke)), ((o 11), .inl (cI, 9, .inl ch)), ((o 12), .inl (cI, 9, .inl tr))])) (F0 zm 37 ls []) := by
          intro fu
          induction fu with
          | zero => intro k hkn hfu; exact absurd hfu (Nat.not_lt_zero _)
          | succ fu lq =>
            intro k hkn hfu H locs ls G hl
            refine lv_iload hx hb d_MO_branch_37 (lv_at hl 0 rfl) ?_
            refine lv_aload_n hx hb d_MO_branch_39 rfl (lv_at hl 7 rfl) ?_
            refine gf_MO_62 X G 0 rfl rfl d_MO_branch_40 ?_
            refine zi_icmp_ge hx hb d_MO_branch_43 rfl (nI_toInt (by omega) : (nI k).toInt = ((k : Nat) : Int)) (nI_toInt (by omega) : (nI B.1).toInt = ((B.1 : Nat) : Int)) (fun h43 => ?_) (fun h43 => ?_)
            · skip
              have hco : sm k (fun k => i1 (opR B dm k x)) = cor B dm x := by rw [show k = B.1 by omega]; rfl
              have hm1 : pcn (dm x) * (bst B dm x).2.2 ≤ 16 * 17 := Nat.mul_le_mul hp16 hbi.2.1
              have hm2 : (bst B dm x).2.1 * (1 + sm k (fun k => i1 (opR B dm k x))) ≤ 16 * 17 := Nat.mul_le_mul hbi.1 (by omega)
              refine lv_iload hx hb d_MO_branch_73 (lv_at hl 2 rfl) ?_
              refine lv_iconst (v := (nI 1)) hx hb d_MO_branch_75 (by decide) ?_
              refine zi_icmp_le hx hb d_MO_branch_76 rfl (nI_toInt (by omega) : (nI (pcn (dm x))).toInt = ((pcn (dm x) : Nat) : Int)) (by decide : (nI 1).toInt = 1) (fun h76 => ?_) (fun h76 => ?_)
              · skip
                have hz : ¬ (1 < pcn (dm x) ∧ ((bst B dm x).1 = -1 ∨ pcn (dm x) * (bst B dm x).2.2 < (bst B dm x).2.1 * (1 + cor B dm x))) := fun h9 => absurd h9.1 (by omega)
                refine lv_iinc (v := (nI (x + 1))) hx hb d_MO_branch_103 hl (k := 3) rfl (nI_1 x) (by decide) rfl (fun ls hl => ?_)
                have hl : lv_has ls 8 [(4, .int (nI (x + 1))), (7, .int (nI k)), (6, .int (nI (1 + sm k (fun k => i1 (opR B dm k x))))), (5, .int (nI (pcn (dm x)))), (1, .int ((bst B dm x).1)), (2, .int (nI ((bst B dm x).2.1))), (3, .int (nI ((bst B dm x).2.2))), (0, .ref (o 0))] := hl
                refine lv_goto hx hb d_MO_branch_106 rfl ?_
                have hl : lv_has ls 8 [(4, .int (nI (x + 1))), (1, .int ((bst B dm x).1)), (2, .int (nI ((bst B dm x).2.1))), (3, .int (nI ((bst B dm x).2.2))), (0, .ref (o 0))] := lv_sub hl [0, 4, 5, 6, 7] rfl
                rw [show bst B dm x = bst B dm (x + 1) from (bst_f hz).symm] at hl
                exact lp (x + 1) (by omega) (by omega) _ _ _ G hl
              · skip
                refine lv_iload_n hx hb d_MO_branch_79 rfl (lv_at hl 4 rfl) ?_
                refine zi_if_lt hx hb d_MO_branch_80 rfl rfl (fun h80 => ?_) (fun h80 => ?_)
                · skip
                  have hz : (1 < pcn (dm x) ∧ ((bst B dm x).1 = -1 ∨ pcn (dm x) * (bst B dm x).2.2 < (bst B dm x).2.1 * (1 + cor B dm x))) := ⟨by omega, Or.inl ((bst_neg hB (by omega)).mp h80)⟩
                  refine lv_iload hx hb d_MO_branch_94 (lv_at hl 3 rfl) ?_
                  refine lv_istore_n hx hb d_MO_branch_96 rfl hl (by decide) rfl (fun ls hl => ?_)
                  have hl : lv_has ls 8 [(1, .int (nI x)), (7, .int (nI k)), (6, .int (nI (1 + sm k (fun k => i1 (opR B dm k x))))), (5, .int (nI (pcn (dm x)))), (4, .int (nI x)), (2, .int (nI ((bst B dm x).2.1))), (3, .int (nI ((bst B dm x).2.2))), (0, .ref (o 0))] := hl
                  refine lv_iload hx hb d_MO_branch_97 (lv_at hl 3 rfl) ?_
                  refine lv_istore_n hx hb d_MO_branch_99 rfl hl (by decide) rfl (fun ls hl => ?_)
                  have hl : lv_has ls 8 [(2, .int (nI (pcn (dm x)))), (1, .int (nI x)), (7, .int (nI k)), (6, .int (nI (1 + sm k (fun k => i1 (opR B dm k x))))), (5, .int (nI (pcn (dm x)))), (4, .int (nI x)), (3, .int (nI ((bst B dm x).2.2))), (0, .ref (o 0))] := hl
                  refine lv_iload hx hb d_MO_branch_100 (lv_at hl 3 rfl) ?_
                  refine lv_istore_n hx hb d_MO_branch_102 rfl hl (by decide) rfl (fun ls hl => ?_)
                  have hl : lv_has ls 8 [(3, .int (nI (1 + sm k (fun k => i1 (opR B dm k x))))), (2, .int (nI (pcn (dm x)))), (1, .int (nI x)), (7, .int (nI k)), (6, .int (nI (1 + sm k (fun k => i1 (opR B dm k x))))), (5, .int (nI (pcn (dm x)))), (4, .int (nI x)), (0, .ref (o 0))] := hl
                  refine lv_iinc (v := (nI (x + 1))) hx hb d_MO_branch_103 hl (k := 6) rfl (nI_1 x) (by decide) rfl (fun ls hl => ?_)
                  have hl : lv_has ls 8 [(4, .int (nI (x + 1))), (3, .int (nI (1 + sm k (fun k => i1 (opR B dm k x))))), (2, .int (nI (pcn (dm x)))), (1, .int (nI x)), (7, .int (nI k)), (6, .int (nI (1 + sm k (fun k => i1 (opR B dm k x))))), (5, .int (nI (pcn (dm x)))), (0, .ref (o 0))] := hl
                  refine lv_goto hx hb d_MO_branch_106 rfl ?_
                  have hl : lv_has ls 8 [(4, .int (nI (x + 1))), (1, .int (nI x)), (2, .int (nI (pcn (dm x)))), (3, .int (nI (1 + sm k (fun k => i1 (opR B dm k x))))), (0, .ref (o 0))] := lv_sub hl [0, 3, 2, 1, 7] rfl
                  have hbt := bst_t hz
                  have hl : lv_has ls 8 [(4, .int (nI (x + 1))), (1, .int ((bst B dm (x + 1)).1)), (2, .int (nI ((bst B dm (x + 1)).2.1))), (3, .int (nI ((bst B dm (x + 1)).2.2))), (0, .ref (o 0))] := by rw [hbt, ← hco]; exact hl
                  exact lp (x + 1) (by omega) (by omega) _ _ _ G hl
                · skip
                  refine lv_iload hx hb d_MO_branch_83 (lv_at hl 2 rfl) ?_
                  refine lv_iload_n hx hb d_MO_branch_85 rfl (lv_at hl 6 rfl) ?_
                  refine zn_mul hx hb d_MO_branch_86 ?_
                  refine lv_iload_n hx hb d_MO_branch_87 rfl (lv_at hl 5 rfl) ?_
                  refine lv_iload hx hb d_MO_branch_88 (lv_at hl 1 rfl) ?_
                  refine zn_mul hx hb d_MO_branch_90 ?_
                  refine zi_icmp_ge hx hb d_MO_branch_91 rfl (nI_toInt (by omega) : (nI ((pcn (dm x)) * ((bst B dm x).2.2))).toInt = (((pcn (dm x)) * ((bst B dm x).2.2) : Nat) : Int)) (nI_toInt (by omega) : (nI (((bst B dm x).2.1) * (1 + sm k (fun k => i1 (opR B dm k x))))).toInt = ((((bst B dm x).2.1) * (1 + sm k (fun k => i1 (opR B dm k x))) : Nat) : Int)) (fun h91 => ?_) (fun h91 => ?_)
                  · skip
                    have hz : ¬ (1 < pcn (dm x) ∧ ((bst B dm x).1 = -1 ∨ pcn (dm x) * (bst B dm x).2.2 < (bst B dm x).2.1 * (1 + cor B dm x))) := by
                      rintro ⟨_, h9 | h9⟩
                      · exact absurd ((bst_neg hB (by omega)).mpr h9) (by omega)
                      · rw [← hco] at h9; omega
                    refine lv_iinc (v := (nI (x + 1))) hx hb d_MO_branch_103 hl (k := 3) rfl (nI_1 x) (by decide) rfl (fun ls hl => ?_)
                    have hl : lv_has ls 8 [(4, .int (nI (x + 1))), (7, .int (nI k)), (6, .int (nI (1 + sm k (fun k => i1 (opR B dm k x))))), (5, .int (nI (pcn (dm x)))), (1, .int ((bst B dm x).1)), (2, .int (nI ((bst B dm x).2.1))), (3, .int (nI ((bst B dm x).2.2))), (0, .ref (o 0))] := hl
                    refine lv_goto hx hb d_MO_branch_106 rfl ?_
                    have hl : lv_has ls 8 [(4, .int (nI (x + 1))), (1, .int ((bst B dm x).1)), (2, .int (nI ((bst B dm x).2.1))), (3, .int (nI ((bst B dm x).2.2))), (0, .ref (o 0))] := lv_sub hl [0, 4, 5, 6, 7] rfl
                    rw [show bst B dm x = bst B dm (x + 1) from (bst_f hz).symm] at hl
                    exact lp (x + 1) (by omega) (by omega) _ _ _ G hl
                  · skip
                    have hz : (1 < pcn (dm x) ∧ ((bst B dm x).1 = -1 ∨ pcn (dm x) * (bst B dm x).2.2 < (bst B dm x).2.1 * (1 + cor B dm x))) := ⟨by omega, Or.inr (by rw [← hco]; omega)⟩
                    refine lv_iload hx hb d_MO_branch_94 (lv_at hl 3 rfl) ?_
                    refine lv_istore_n hx hb d_MO_branch_96 rfl hl (by decide) rfl (fun ls hl => ?_)
                    have hl : lv_has ls 8 [(1, .int (nI x)), (7, .int (nI k)), (6, .int (nI (1 + sm k (fun k => i1 (opR B dm k x))))), (5, .int (nI (pcn (dm x)))), (4, .int (nI x)), (2, .int (nI ((bst B dm x).2.1))), (3, .int (nI ((bst B dm x).2.2))), (0, .ref (o 0))] := hl
                    refine lv_iload hx hb d_MO_branch_97 (lv_at hl 3 rfl) ?_
                    refine lv_istore_n hx hb d_MO_branch_99 rfl hl (by decide) rfl (fun ls hl => ?_)
                    have hl : lv_has ls 8 [(2, .int (nI (pcn (dm x)))), (1, .int (nI x)), (7, .int (nI k)), (6, .int (nI (1 + sm k (fun k => i1 (opR B dm k x))))), (5, .int (nI (pcn (dm x)))), (4, .int (nI x)), (3, .int (nI ((bst B dm x).2.2))), (0, .ref (o 0))] := hl
                    refine lv_iload hx hb d_MO_branch_100 (lv_at hl 3 rfl) ?_
                    refine lv_istore_n hx hb d_MO_branch_102 rfl hl (by decide) rfl (fun ls hl => ?_)
                    have hl : lv_has ls 8 [(3, .int (nI (1 + sm k (fun k => i1 (opR B dm k x))))), (2, .int (nI (pcn (dm x)))), (1, .int (nI x)), (7, .int (nI k)), (6, .int (nI (1 + sm k (fun k => i1 (opR B dm k x))))), (5, .int (nI (pcn (dm x)))), (4, .int (nI x)), (0, .ref (o 0))] := hl
                    refine lv_iinc (v := (nI (x + 1))) hx hb d_MO_branch_103 hl (k := 6) rfl (nI_1 x) (by decide) rfl (fun ls hl => ?_)
                    have hl : lv_has ls 8 [(4, .int (nI (x + 1))), (3, .int (nI (1 + sm k (fun k => i1 (opR B dm k x))))), (2, .int (nI (pcn (dm x)))), (1, .int (nI x)), (7, .int (nI k)), (6, .int (nI (1 + sm k (fun k => i1 (opR B dm k x))))), (5, .int (nI (pcn (dm x)))), (0, .ref (o 0))] := hl
                    refine lv_goto hx hb d_MO_branch_106 rfl ?_
                    have hl : lv_has ls 8 [(4, .int (nI (x + 1))), (1, .int (nI x)), (2, .int (nI (pcn (dm x)))), (3, .int (nI (1 + sm k (fun k => i1 (opR B dm k x))))), (0, .ref (o 0))] := lv_sub hl [0, 3, 2, 1, 7] rfl
                    have hbt := bst_t hz
                    have hl : lv_has ls 8 [(4, .int (nI (x + 1))), (1, .int ((bst B dm (x + 1)).1)), (2, .int (nI ((bst B dm (x + 1)).2.1))), (3, .int (nI ((bst B dm (x + 1)).2.2))), (0, .ref (o 0))] := by rw [hbt, ← hco]; exact hl
                    exact lp (x + 1) (by omega) (by omega) _ _ _ G hl
            · skip
              refine lv_iload hx hb d_MO_branch_46 (lv_at hl 1 rfl) ?_
              refine lv_aload_n hx hb d_MO_branch_48 rfl (lv_at hl 7 rfl) ?_
              refine lv_iload hx hb d_MO_branch_49 (lv_at hl 0 rfl) ?_
              refine lv_iload hx hb d_MO_branch_51 (lv_at hl 3 rfl) ?_
              refine zV_R X G (m_opn l D cI o cnt lv B dm od om be ke ch tr U V de vi fa so hB k x (by omega) (by omega)) lk_MO_117 [0, 1, 2, 3, 4, 5, 6, 7, 8, 9, 10, 11, 12] rfl (by decide) 0 rfl rfl ⟨by decide, by decide⟩ ⟨Nat.zero_le _, Nat.zero_le _⟩ hl.1 rfl (Nat.le_of_ble_eq_true rfl) d_MO_branch_53 (fun H locs G => ?_)
              refine zb_eq hx hb d_MO_branch_56 rfl (fun h56 => ?_) (fun h56 => ?_)
              · skip
                have hw0 : sm (k + 1) (fun k => i1 (opR B dm k x)) = sm k (fun k => i1 (opR B dm k x)) + 0 := congrArg _ (i1_f h56)
                refine lv_iconst (v := (nI 0)) hx hb d_MO_branch_63 (by decide) ?_
                refine zn_add hx hb d_MO_branch_64 ?_
                refine z_top (nI (1 + sm (k + 1) (fun k => i1 (opR B dm k x)))) (congrArg nI (by omega)) ?_
                refine lv_istore hx hb d_MO_branch_65 hl (by decide) rfl (fun ls hl => ?_)
                have hl : lv_has ls 8 [(6, .int (nI (1 + sm (k + 1) (fun k => i1 (opR B dm k x))))), (7, .int (nI k)), (5, .int (nI (pcn (dm x)))), (4, .int (nI x)), (1, .int ((bst B dm x).1)), (2, .int (nI ((bst B dm x).2.1))), (3, .int (nI ((bst B dm x).2.2))), (0, .ref (o 0))] := hl
                refine lv_iinc (v := (nI (k + 1))) hx hb d_MO_branch_67 hl (k := 1) rfl (nI_1 k) (by decide) rfl (fun ls hl => ?_)
                have hl : lv_has ls 8 [(7, .int (nI (k + 1))), (6, .int (nI (1 + sm (k + 1) (fun k => i1 (opR B dm k x))))), (5, .int (nI (pcn (dm x)))), (4, .int (nI x)), (1, .int ((bst B dm x).1)), (2, .int (nI ((bst B dm x).2.1))), (3, .int (nI ((bst B dm x).2.2))), (0, .ref (o 0))] := hl
                refine lv_goto hx hb d_MO_branch_70 rfl ?_
                have hl : lv_has ls 8 [(7, .int (nI (k + 1))), (6, .int (nI (1 + sm (k + 1) (fun k => i1 (opR B dm k x))))), (5, .int (nI (pcn (dm x)))), (4, .int (nI x)), (1, .int ((bst B dm x).1)), (2, .int (nI ((bst B dm x).2.1))), (3, .int (nI ((bst B dm x).2.2))), (0, .ref (o 0))] := lv_sub hl [0, 1, 2, 3, 4, 5, 6, 7] rfl
                exact lq (k + 1) (by omega) (by omega) _ _ _ G hl
              · skip
                have hw0 : sm (k + 1) (fun k => i1 (opR B dm k x)) = sm k (fun k => i1 (opR B dm k x)) + 1 := congrArg _ (i1_t h56)
                refine lv_iconst (v := (nI 1)) hx hb d_MO_branch_59 (by decide) ?_
                refine lv_goto hx hb d_MO_branch_60 rfl ?_
                refine zn_add hx hb d_MO_branch_64 ?_
                refine z_top (nI (1 + sm (k + 1) (fun k => i1 (opR B dm k x)))) (congrArg nI (by omega)) ?_
                refine lv_istore hx hb d_MO_branch_65 hl (by decide) rfl (fun ls hl => ?_)
                have hl : lv_has ls 8 [(6, .int (nI (1 + sm (k + 1) (fun k => i1 (opR B dm k x))))), (7, .int (nI k)), (5, .int (nI (pcn (dm x)))), (4, .int (nI x)), (1, .int ((bst B dm x).1)), (2, .int (nI ((bst B dm x).2.1))), (3, .int (nI ((bst B dm x).2.2))), (0, .ref (o 0))] := hl
                refine lv_iinc (v := (nI (k + 1))) hx hb d_MO_branch_67 hl (k := 1) rfl (nI_1 k) (by decide) rfl (fun ls hl => ?_)
                have hl : lv_has ls 8 [(7, .int (nI (k + 1))), (6, .int (nI (1 + sm (k + 1) (fun k => i1 (opR B dm k x))))), (5, .int (nI (pcn (dm x)))), (4, .int (nI x)), (1, .int ((bst B dm x).1)), (2, .int (nI ((bst B dm x).2.1))), (3, .int (nI ((bst B dm x).2.2))), (0, .ref (o 0))] := hl
                refine lv_goto hx hb d_MO_branch_70 rfl ?_
                have hl : lv_has ls 8 [(7, .int (nI (k + 1))), (6, .int (nI (1 + sm (k + 1) (fun k => i1 (opR B dm k x))))), (5, .int (nI (pcn (dm x)))), (4, .int (nI x)), (1, .int ((bst B dm x).1)), (2, .int (nI ((bst B dm x).2.1))), (3, .int (nI ((bst B dm x).2.2))), (0, .ref (o 0))] := lv_sub hl [0, 1, 2, 3, 4, 5, 6, 7] rfl
                exact lq (k + 1) (by omega) (by omega) _ _ _ G hl
        have hl : lv_has ls 8 [(7, .int (nI 0)), (6, .int (nI 1)), (5, .int (nI (pcn (dm x)))), (4, .int (nI x)), (1, .int ((bst B dm x).1)), (2, .int (nI ((bst B dm x).2.1))), (3, .int (nI ((bst B dm x).2.2))), (0, .ref (o 0))] := lv_sub hl [0, 1, 2, 3, 4, 5, 6, 7] rfl
        exact lq _ 0 (by omega) (Nat.lt_succ_self _) _ _ _ G hl
  have hl : lv_has ls 8 [(4, .int (nI 0)), (1, .int (-1)), (2, .int (nI 0)), (3, .int (nI 0)), (0, .ref (o 0))] := lv_sub hl [0, 3, 2, 1, 4] rfl
  exact lp _ 0 (by omega) (Nat.lt_succ_self _) _ _ _ G hl
set_option maxHeartbeats 4000000 in
set_option maxRecDepth 100000 in
theorem m_node (l : Launch) (D : va_G) (cI : ClassId) (o : Nat → Nat) (cnt lv : Nat) (B : Bk) (dm od om be ke ch tr : Nat → Int32) (U V : Prop) (de vi fa so : Int32) (hB : BOk cnt B) (dd : Nat) (hdd : dd ≤ 9) (hz8 : ∀ x, 8 ≤ x → dm x = 0) (hbe : DOk cnt (rwf be 0)) (hct : ∀ i, i < dd → ∃ x v, x < cnt ∧ v < 16 ∧ ch i = nI x ∧ tr i = nI v) : MI l y_MO_node b_MO_node 3 .boolean 5 D cI [.ref (o 0), .int (nI dd)] [((o 0), .inr (5, [.int (nI cnt), .int (nI (B.1)), .int (nI lv), .ref (o 1), .ref (o 2), .ref (o 3), .ref (o 4), .ref (o 5), .ref (o 6), .ref (o 7), .ref (o 8), .int (bP (U)), .int (bP (V)), .int de, .int vi, .int fa, .int so, .ref (o 9), .ref (o 10), .ref (o 11), .ref (o 12)])), ((o 1), .inl (cI, 8, .inl dm)), ((o 2), .inl (cI, 16, .inl B.kd)), ((o 3), .inl (cI, 48, .inl B.mb)), ((o 4), .inl (cI, 16, .inl B.nu)), ((o 5), .inl (cI, 4, .inl B.sz)), ((o 6), .inl (cI, 144, .inl B.en)), ((o 7), .inl (cI, 80, .inl od)), ((o 8), .inl (cI, 10, .inl om)), ((o 9), .inl (cI, 8, .inl be)), ((o 10), .inl (cI, 8, .inl ke)), ((o 11), .inl (cI, 9, .inl ch)), ((o 12), .inl (cI, 9, .inl tr))] (fun r u => ∃ E, u = [((o 0), .inr (5, [.int (nI cnt), .int (nI (B.1)), .int (nI lv), .ref (o 1), .ref (o 2), .ref (o 3), .ref (o 4), .ref (o 5), .ref (o 6), .ref (o 7), .ref (o 8), .int (bP (U)), .int (bP (V)), .int de, .int vi, .int fa, .int so, .ref (o 9), .ref (o 10), .ref (o 11), .ref (o 12)])), ((o 1), .inl (cI, 8, .inl E)), ((o 2), .inl (cI, 16, .inl B.kd)), ((o 3), .inl (cI, 48, .inl B.mb)), ((o 4), .inl (cI, 16, .inl B.nu)), ((o 5), .inl (cI, 4, .inl B.sz)), ((o 6), .inl (cI, 144, .inl B.en)), ((o 7), .inl (cI, 80, .inl od)), ((o 8), .inl (cI, 10, .inl om)), ((o 9), .inl (cI, 8, .inl be)), ((o 10), .inl (cI, 8, .inl ke)), ((o 11), .inl (cI, 9, .inl ch)), ((o 12), .inl (cI, 9, .inl tr))] ∧ ((r = 1 ∧ IsClo cnt B (cutn be ch tr dd) E) ∨ (r = 0 ∧ NoClo cnt B (cutn be ch tr dd) ∧ DOk cnt E))) := by
  refine MI.of (by decide) (Nat.le_of_ble_eq_true rfl) ?_
  intro zp ze zs zm zb zt zc ls A X hrt hlk G hl
  have hx := X.1
  have hb := X.2.1
  have hl : lv_has ls 3 [(0, .ref (o 0)), (1, .int (nI dd))] := hl
  have hc8 := hB.1
  have hn16 := hB.2.1
  refine lv_aload_n hx hb d_MO_node_0 rfl (lv_at hl 0 rfl) ?_
  refine zV_W (wr := []) X G (m_restore l D cI o cnt lv B dm od om be ke ch tr U V de vi fa so) lk_MO_120 [0, 1, 2, 3, 4, 5, 6, 7, 8, 9, 10, 11, 12] rfl (by decide) [] rfl (by decide) (by decide) 0 rfl rfl ⟨by decide, by decide⟩ ⟨Nat.zero_le _, Nat.zero_le _⟩ hl.1 rfl (Nat.le_of_ble_eq_true rfl) d_MO_node_1 (fun u H locs q1 G => ?_)
  subst q1
  have G : Gw D A zs.heap H locs [((o 0), .inr (5, [.int (nI cnt), .int (nI (B.1)), .int (nI lv), .ref (o 1), .ref (o 2), .ref (o 3), .ref (o 4), .ref (o 5), .ref (o 6), .ref (o 7), .ref (o 8), .int (bP (U)), .int (bP (V)), .int de, .int vi, .int fa, .int so, .ref (o 9), .ref (o 10), .ref (o 11), .ref (o 12)])), ((o 1), .inl (cI, 8, .inl (va_cpy be dm 0 0 8))), ((o 2), .inl (cI, 16, .inl B.kd)), ((o 3), .inl (cI, 48, .inl B.mb)), ((o 4), .inl (cI, 16, .inl B.nu)), ((o 5), .inl (cI, 4, .inl B.sz)), ((o 6), .inl (cI, 144, .inl B.en)), ((o 7), .inl (cI, 80, .inl od)), ((o 8), .inl (cI, 10, .inl om)), ((o 9), .inl (cI, 8, .inl be)), ((o 10), .inl (cI, 8, .inl ke)), ((o 11), .inl (cI, 9, .inl ch)), ((o 12), .inl (cI, 9, .inl tr))] := G.sub [0, 1, 2, 3, 4, 5, 6, 7, 8, 9, 10, 11, 12] (by decide) rfl
  refine lv_iconst (v := (nI 0)) hx hb d_MO_node_4 (by decide) ?_
  refine lv_istore_n hx hb d_MO_node_5 rfl hl (by decide) rfl (fun ls hl => ?_)
  have hl : lv_has ls 3 [(2, .int (nI 0)), (0, .ref (o 0)), (1, .int (nI dd))] := hl
  have lp : ∀ (fu : Nat) (i : Nat) (hi : i ≤ dd) (hfu : dd - i < fu) (H : Heap) (locs : List Loc) (ls : Array Slot), Gw D A zs.heap H locs [((o 0), .inr (5, [.int (nI cnt), .int (nI (B.1)), .int (nI lv), .ref (o 1), .ref (o 2), .ref (o 3), .ref (o 4), .ref (o 5), .ref (o 6), .ref (o 7), .ref (o 8), .int (bP (U)), .int (bP (V)), .int de, .int vi, .int fa, .int so, .ref (o 9), .ref (o 10), .ref (o 11), .ref (o 12)])), ((o 1), .inl (cI, 8, .inl (cutn be ch tr i))), ((o 2), .inl (cI, 16, .inl B.kd)), ((o 3), .inl (cI, 48, .inl B.mb)), ((o 4), .inl (cI, 16, .inl B.nu)), ((o 5), .inl (cI, 4, .inl B.sz)), ((o 6), .inl (cI, 144, .inl B.en)), ((o 7), .inl (cI, 80, .inl od)), ((o 8), .inl (cI, 10, .inl om)), ((o 9), .inl (cI, 8, .inl be)), ((o 10), .inl (cI, 8, .inl ke)), ((o 11), .inl (cI, 9, .inl ch)), ((o 12), .inl (cI, 9, .inl tr))] → lv_has ls 3 [(2, .int (nI i)), (1, .int (nI dd)), (0, .ref (o 0))] → W zp l ze (zr 5) zs zm ([.ref (o 0), .int (nI dd)] : List Value).toArray zb zt zc H locs 0 0 (ZI D zb ([.ref (o 0), .int (nI dd)] : List Value) zs A (fun r u => ∃ E, u = [((o 0), .inr (5, [.int (nI cnt), .int (nI (B.1)), .int (nI lv), .ref (o 1), .ref (o 2), .ref (o 3), .ref (o 4), .ref (o 5), .ref (o 6), .ref (o 7), .ref (o 8), .int (bP (U)), .int (bP (V)), .int de, .int vi, .int fa, .int so, .ref (o 9), .ref (o 10), .ref (o 11), .ref (o 12)])), ((o 1), .inl (cI, 8, .inl E)), ((o 2), .inl (cI, 16, .inl B.kd)), ((o 3), .inl (cI, 48, .inl B.mb)), ((o 4), .inl (cI, 16, .inl B.nu)), ((o 5), .inl (cI, 4, .inl B.sz)), ((o 6), .inl (cI, 144, .inl B.en)), ((o 7), .inl (cI, 80, .inl od)), ((o 8), .inl (cI, 10, .inl om)), ((o 9), .inl (cI, 8, .inl be)), ((o 10), .inl (cI, 8, .inl ke)), ((o 11), .inl (cI, 9, .inl ch)), ((o 12), .inl (cI, 9, .inl tr))] ∧ ((r = 1 ∧ IsClo cnt B (cutn be ch tr dd) E) ∨ (r = 0 ∧ NoClo cnt B (cutn be ch tr dd) ∧ DOk cnt E)))) (F0 zm 6 ls []) := by
    intro fu
    induction fu with
    | zero => intro i hi hfu; exact absurd hfu (Nat.not_lt_zero _)
    | succ fu lp =>
      intro i hi hfu H locs ls G hl
      refine lv_iload_n hx hb d_MO_node_6 rfl (lv_at hl 0 rfl) ?_
      refine lv_iload_n hx hb d_MO_node_7 rfl (lv_at hl 1 rfl) ?_
      refine zi_icmp_ge hx hb d_MO_node_8 rfl (nI_toInt (by omega) : (nI i).toInt = ((i : Nat) : Int)) (nI_toInt (by omega) : (nI dd).toInt = ((dd : Nat) : Int)) (fun h8 => ?_) (fun h8 => ?_)
      · skip
        refine lv_aload_n hx hb d_MO_node_39 rfl (lv_at hl 2 rfl) ?_
        refine zV_I (wr := []) X G (m_closing l D cI o cnt lv B (cutn be ch tr i) od om be ke ch tr U V de vi fa so hB (DOk.cutn hbe i)) lk_MO_99 [0, 1, 2, 3, 4, 5, 6, 7, 8, 9, 10, 11, 12] rfl (by decide) [] rfl (by decide) (by decide) 0 rfl rfl ⟨by decide, by decide⟩ ⟨Nat.zero_le _, Nat.zero_le _⟩ hl.1 rfl (Nat.le_of_ble_eq_true rfl) d_MO_node_40 (fun r40 u H locs q40 G => ?_)
        obtain ⟨E, rfl, q40⟩ := q40
        have G : Gw D A zs.heap H locs [((o 0), .inr (5, [.int (nI cnt), .int (nI (B.1)), .int (nI lv), .ref (o 1), .ref (o 2), .ref (o 3), .ref (o 4), .ref (o 5), .ref (o 6), .ref (o 7), .ref (o 8), .int (bP (U)), .int (bP (V)), .int de, .int vi, .int fa, .int so, .ref (o 9), .ref (o 10), .ref (o 11), .ref (o 12)])), ((o 1), .inl (cI, 8, .inl E)), ((o 2), .inl (cI, 16, .inl B.kd)), ((o 3), .inl (cI, 48, .inl B.mb)), ((o 4), .inl (cI, 16, .inl B.nu)), ((o 5), .inl (cI, 4, .inl B.sz)), ((o 6), .inl (cI, 144, .inl B.en)), ((o 7), .inl (cI, 80, .inl od)), ((o 8), .inl (cI, 10, .inl om)), ((o 9), .inl (cI, 8, .inl be)), ((o 10), .inl (cI, 8, .inl ke)), ((o 11), .inl (cI, 9, .inl ch)), ((o 12), .inl (cI, 9, .inl tr))] := G.sub [0, 1, 2, 3, 4, 5, 6, 7, 8, 9, 10, 11, 12] (by decide) rfl
        rw [show i = dd by omega] at q40
        exact z_ret X hrt hlk G (by rcases q40 with h9 | h9 <;> rw [h9.1] <;> rfl) (⟨E, rfl, q40⟩) d_MO_node_43
      · skip
        obtain ⟨x, v, hxc, hv16, hcx, htv⟩ := hct i (by omega)
        refine lv_aload_n hx hb d_MO_node_11 rfl (lv_at hl 2 rfl) ?_
        refine gf_MO_7 X G 0 rfl rfl d_MO_node_12 ?_
        refine lv_aload_n hx hb d_MO_node_15 rfl (lv_at hl 2 rfl) ?_
        refine gf_MO_40 X G 0 rfl rfl d_MO_node_16 ?_
        refine lv_iload_n hx hb d_MO_node_19 rfl (lv_at hl 0 rfl) ?_
        refine z_iald X G 11 rfl i (rfl) (by omega) (by decide) d_MO_node_20 ?_
        refine z_top (nI x) (hcx) ?_
        refine lv_dup2_11 hx hb d_MO_node_21 rfl rfl ?_
        refine z_iald X G 1 rfl x (rfl) (by omega) (by decide) d_MO_node_22 ?_
        refine lv_iconst (v := (nI 1)) hx hb d_MO_node_23 (by decide) ?_
        refine lv_aload_n hx hb d_MO_node_24 rfl (lv_at hl 2 rfl) ?_
        refine gf_MO_43 X G 0 rfl rfl d_MO_node_25 ?_
        refine lv_iload_n hx hb d_MO_node_28 rfl (lv_at hl 0 rfl) ?_
        refine z_iald X G 12 rfl i (rfl) (by omega) (by decide) d_MO_node_29 ?_
        refine z_top (nI v) (htv) ?_
        refine lv_ishl hx hb d_MO_node_30 ?_
        refine lv_iand hx hb d_MO_node_31 ?_
        refine z_iast X G 1 rfl x (rfl) (by omega) (by decide) d_MO_node_32 (fun H locs G => ?_)
        have G : Gw D A zs.heap H locs [((o 0), .inr (5, [.int (nI cnt), .int (nI (B.1)), .int (nI lv), .ref (o 1), .ref (o 2), .ref (o 3), .ref (o 4), .ref (o 5), .ref (o 6), .ref (o 7), .ref (o 8), .int (bP (U)), .int (bP (V)), .int de, .int vi, .int fa, .int so, .ref (o 9), .ref (o 10), .ref (o 11), .ref (o 12)])), ((o 1), .inl (cI, 8, .inl (upd (cutn be ch tr i) x (((cutn be ch tr i) x) &&& ((nI 1) <<< ((nI v) &&& 31)))))), ((o 2), .inl (cI, 16, .inl B.kd)), ((o 3), .inl (cI, 48, .inl B.mb)), ((o 4), .inl (cI, 16, .inl B.nu)), ((o 5), .inl (cI, 4, .inl B.sz)), ((o 6), .inl (cI, 144, .inl B.en)), ((o 7), .inl (cI, 80, .inl od)), ((o 8), .inl (cI, 10, .inl om)), ((o 9), .inl (cI, 8, .inl be)), ((o 10), .inl (cI, 8, .inl ke)), ((o 11), .inl (cI, 9, .inl ch)), ((o 12), .inl (cI, 9, .inl tr))] := G
        rw [show (upd (cutn be ch tr i) x (((cutn be ch tr i) x) &&& ((nI 1) <<< ((nI v) &&& 31)))) = (cutn be ch tr (i + 1)) from (cutn_s (by omega) hcx htv).symm] at G
        refine lv_iinc (v := (nI (i + 1))) hx hb d_MO_node_33 hl (k := 0) rfl (nI_1 i) (by decide) rfl (fun ls hl => ?_)
        have hl : lv_has ls 3 [(2, .int (nI (i + 1))), (1, .int (nI dd)), (0, .ref (o 0))] := hl
        refine lv_goto hx hb d_MO_node_36 rfl ?_
        have hl : lv_has ls 3 [(2, .int (nI (i + 1))), (1, .int (nI dd)), (0, .ref (o 0))] := lv_sub hl [0, 1, 2] rfl
        exact lp (i + 1) (by omega) (by omega) _ _ _ G hl
  have hl : lv_has ls 3 [(2, .int (nI 0)), (1, .int (nI dd)), (0, .ref (o 0))] := lv_sub hl [0, 2, 1] rfl
  rw [cpy_rw0 hz8] at G
  exact lp _ 0 (by omega) (Nat.lt_succ_self _) _ _ _ G hl
set_option maxHeartbeats 4000000 in
set_option maxRecDepth 100000 in
theorem m_arrive (l : Launch) (D : va_G) (cI : ClassId) (o : Nat → Nat) (cnt lv : Nat) (B : Bk) (dm od om be ke ch tr : Nat → Int32) (U V : Prop) (vi fa so : Int32) (hB : BOk cnt B) (hD : DOk cnt dm) (dd : Nat) (hdd : dd ≤ 8) : MI l y_MO_arrive b_MO_arrive 2 .int 3 D cI [.ref (o 0)] [((o 0), .inr (5, [.int (nI cnt), .int (nI (B.1)), .int (nI lv), .ref (o 1), .ref (o 2), .ref (o 3), .ref (o 4), .ref (o 5), .ref (o 6), .ref (o 7), .ref (o 8), .int (bP (U)), .int (bP (V)), .int (nI dd), .int vi, .int fa, .int so, .ref (o 9), .ref (o 10), .ref (o 11), .ref (o 12)])), ((o 1), .inl (cI, 8, .inl dm)), ((o 2), .inl (cI, 16, .inl B.kd)), ((o 3), .inl (cI, 48, .inl B.mb)), ((o 4), .inl (cI, 16, .inl B.nu)), ((o 5), .inl (cI, 4, .inl B.sz)), ((o 6), .inl (cI, 144, .inl B.en)), ((o 7), .inl (cI, 80, .inl od)), ((o 8), .inl (cI, 10, .inl om)), ((o 9), .inl (cI, 8, .inl be)), ((o 10), .inl (cI, 8, .inl ke)), ((o 11), .inl (cI, 9, .inl ch)), ((o 12), .inl (cI, 9, .inl tr))] (fun r u => ∃ so1, u = [((o 0), .inr (5, [.int (nI cnt), .int (nI (B.1)), .int (nI lv), .ref (o 1), .ref (o 2), .ref (o 3), .ref (o 4), .ref (o 5), .ref (o 6), .ref (o 7), .ref (o 8), .int (bP (U)), .int (bP (V)), .int (nI dd), .int vi, .int fa, .int so1, .ref (o 9), .ref (o 10), .ref (o 11), .ref (o 12)])), ((o 1), .inl (cI, 8, .inl dm)), ((o 2), .inl (cI, 16, .inl B.kd)), ((o 3), .inl (cI, 48, .inl B.mb)), ((o 4), .inl (cI, 16, .inl B.nu)), ((o 5), .inl (cI, 4, .inl B.sz)), ((o 6), .inl (cI, 144, .inl B.en)), ((o 7), .inl (cI, 80, .inl od)), ((o 8), .inl (cI, 10, .inl om)), ((o 9), .inl (cI, 8, .inl be)), ((o 10), .inl (cI, 8, .inl ke)), ((o 11), .inl (cI, 9, .inl (upd ch dd (bst B dm cnt).1))), ((o 12), .inl (cI, 9, .inl (upd tr dd (-1))))] ∧ (((bst B dm cnt).1 = -1 ∧ r = 2 ∧ so1 = so + nI 1) ∨ (∃ x, x < cnt ∧ (bst B dm cnt).1 = nI x ∧ 1 < pcn (dm x) ∧ r = 1 ∧ so1 = so))) := by
  refine MI.of (by decide) (Nat.le_of_ble_eq_true rfl) ?_
  intro zp ze zs zm zb zt zc ls A X hrt hlk G hl
  have hx := X.1
  have hb := X.2.1
  have hl : lv_has ls 2 [(0, .ref (o 0))] := hl
  have hc8 := hB.1
  have hn16 := hB.2.1
  have hbi := (bst_in (D := dm) hB cnt hc8).2.2
  refine lv_aload_n hx hb d_MO_arrive_0 rfl (lv_at hl 0 rfl) ?_
  refine gf_MO_43 X G 0 rfl rfl d_MO_arrive_1 ?_
  refine lv_aload_n hx hb d_MO_arrive_4 rfl (lv_at hl 0 rfl) ?_
  refine gf_MO_105 X G 0 rfl rfl d_MO_arrive_5 ?_
  refine lv_iconst (v := (-1)) hx hb d_MO_arrive_8 (by decide) ?_
  refine z_iast X G 12 rfl dd (rfl) (by omega) (by decide) d_MO_arrive_9 (fun H locs G => ?_)
  have G : Gw D A zs.heap H locs [((o 0), .inr (5, [.int (nI cnt), .int (nI (B.1)), .int (nI lv), .ref (o 1), .ref (o 2), .ref (o 3), .ref (o 4), .ref (o 5), .ref (o 6), .ref (o 7), .ref (o 8), .int (bP (U)), .int (bP (V)), .int (nI dd), .int vi, .int fa, .int so, .ref (o 9), .ref (o 10), .ref (o 11), .ref (o 12)])), ((o 1), .inl (cI, 8, .inl dm)), ((o 2), .inl (cI, 16, .inl B.kd)), ((o 3), .inl (cI, 48, .inl B.mb)), ((o 4), .inl (cI, 16, .inl B.nu)), ((o 5), .inl (cI, 4, .inl B.sz)), ((o 6), .inl (cI, 144, .inl B.en)), ((o 7), .inl (cI, 80, .inl od)), ((o 8), .inl (cI, 10, .inl om)), ((o 9), .inl (cI, 8, .inl be)), ((o 10), .inl (cI, 8, .inl ke)), ((o 11), .inl (cI, 9, .inl ch)), ((o 12), .inl (cI, 9, .inl (upd tr dd (-1))))] := G
  refine lv_aload_n hx hb d_MO_arrive_10 rfl (lv_at hl 0 rfl) ?_
  refine zV_R X G (m_branch l D cI o cnt lv B dm od om be ke ch (upd tr dd (-1)) U V (nI dd) vi fa so hB hD) lk_MO_123 [0, 1, 2, 3, 4, 5, 6, 7, 8, 9, 10, 11, 12] rfl (by decide) 0 rfl rfl ⟨by decide, by decide⟩ ⟨Nat.zero_le _, Nat.zero_le _⟩ hl.1 rfl (Nat.le_of_ble_eq_true rfl) d_MO_arrive_11 (fun H locs G => ?_)
  refine lv_istore_n hx hb d_MO_arrive_14 rfl hl (by decide) rfl (fun ls hl => ?_)
  have hl : lv_has ls 2 [(1, .int ((bst B dm cnt).1)), (0, .ref (o 0))] := hl
  refine lv_aload_n hx hb d_MO_arrive_15 rfl (lv_at hl 1 rfl) ?_
  refine gf_MO_40 X G 0 rfl rfl d_MO_arrive_16 ?_
  refine lv_aload_n hx hb d_MO_arrive_19 rfl (lv_at hl 1 rfl) ?_
  refine gf_MO_105 X G 0 rfl rfl d_MO_arrive_20 ?_
  refine lv_iload_n hx hb d_MO_arrive_23 rfl (lv_at hl 0 rfl) ?_
  refine z_iast X G 11 rfl dd (rfl) (by omega) (by decide) d_MO_arrive_24 (fun H locs G => ?_)
  have G : Gw D A zs.heap H locs [((o 0), .inr (5, [.int (nI cnt), .int (nI (B.1)), .int (nI lv), .ref (o 1), .ref (o 2), .ref (o 3), .ref (o 4), .ref (o 5), .ref (o 6), .ref (o 7), .ref (o 8), .int (bP (U)), .int (bP (V)), .int (nI dd), .int vi, .int fa, .int so, .ref (o 9), .ref (o 10), .ref (o 11), .ref (o 12)])), ((o 1), .inl (cI, 8, .inl dm)), ((o 2), .inl (cI, 16, .inl B.kd)), ((o 3), .inl (cI, 48, .inl B.mb)), ((o 4), .inl (cI, 16, .inl B.nu)), ((o 5), .inl (cI, 4, .inl B.sz)), ((o 6), .inl (cI, 144, .inl B.en)), ((o 7), .inl (cI, 80, .inl od)), ((o 8), .inl (cI, 10, .inl om)), ((o 9), .inl (cI, 8, .inl be)), ((o 10), .inl (cI, 8, .inl ke)), ((o 11), .inl (cI, 9, .inl (upd ch dd ((bst B dm cnt).1)))), ((o 12), .inl (cI, 9, .inl (upd tr dd (-1))))] := G
  refine lv_aload_n hx hb d_MO_arrive_25 rfl (lv_at hl 1 rfl) ?_
  refine lv_dup hx hb d_MO_arrive_26 rfl ?_
  refine gf_MO_114 X G 0 rfl rfl d_MO_arrive_27 ?_
  refine lv_iload_n hx hb d_MO_arrive_30 rfl (lv_at hl 0 rfl) ?_
  refine zi_if_ge hx hb d_MO_arrive_31 rfl rfl (fun h31 => ?_) (fun h31 => ?_)
  · skip
    obtain ⟨x, hxc, hbx, hop⟩ : ∃ x, x < cnt ∧ (bst B dm cnt).1 = nI x ∧ 1 < pcn (dm x) := by
      rcases hbi with h9 | h9
      · rw [h9.1, nI_neg1] at h31; omega
      · exact h9
    refine lv_iconst (v := (nI 0)) hx hb d_MO_arrive_38 (by decide) ?_
    refine lv_iadd hx hb d_MO_arrive_39 ?_
    refine z_top so (Int32.add_zero so) ?_
    refine pf_MO_114 X G 0 rfl (rfl) (rfl) (Nat.le_of_ble_eq_true rfl) d_MO_arrive_40 (fun H locs G => ?_)
    have G : Gw D A zs.heap H locs [((o 0), .inr (5, [.int (nI cnt), .int (nI (B.1)), .int (nI lv), .ref (o 1), .ref (o 2), .ref (o 3), .ref (o 4), .ref (o 5), .ref (o 6), .ref (o 7), .ref (o 8), .int (bP (U)), .int (bP (V)), .int (nI dd), .int vi, .int fa, .int so, .ref (o 9), .ref (o 10), .ref (o 11), .ref (o 12)])), ((o 1), .inl (cI, 8, .inl dm)), ((o 2), .inl (cI, 16, .inl B.kd)), ((o 3), .inl (cI, 48, .inl B.mb)), ((o 4), .inl (cI, 16, .inl B.nu)), ((o 5), .inl (cI, 4, .inl B.sz)), ((o 6), .inl (cI, 144, .inl B.en)), ((o 7), .inl (cI, 80, .inl od)), ((o 8), .inl (cI, 10, .inl om)), ((o 9), .inl (cI, 8, .inl be)), ((o 10), .inl (cI, 8, .inl ke)), ((o 11), .inl (cI, 9, .inl (upd ch dd ((bst B dm cnt).1)))), ((o 12), .inl (cI, 9, .inl (upd tr dd (-1))))] := G
    refine lv_iload_n hx hb d_MO_arrive_43 rfl (lv_at hl 0 rfl) ?_
    refine zi_if_ge hx hb d_MO_arrive_44 rfl rfl (fun h44 => ?_) (fun h44 => ?_)
    · skip
      refine lv_iconst (v := (nI 1)) hx hb d_MO_arrive_51 (by decide) ?_
      exact z_ret X hrt hlk G (rfl) (⟨_, rfl, by first | exact Or.inr ⟨x, hxc, hbx, hop, rfl, rfl⟩ | exact absurd h31 (by omega)⟩) d_MO_arrive_52
    · skip
      refine lv_iconst (v := (nI 2)) hx hb d_MO_arrive_47 (by decide) ?_
      refine lv_goto hx hb d_MO_arrive_48 rfl ?_
      exact z_ret X hrt hlk G (rfl) (⟨_, rfl, by first | exact Or.inl ⟨hb1, rfl, rfl⟩ | exact absurd h31 (by omega)⟩) d_MO_arrive_52
  · skip
    have hb1 := (bst_neg hB hc8).mp h31
    refine lv_iconst (v := (nI 1)) hx hb d_MO_arrive_34 (by decide) ?_
    refine lv_goto hx hb d_MO_arrive_35 rfl ?_
    refine lv_iadd hx hb d_MO_arrive_39 ?_
    refine z_top (so + nI 1) (rfl) ?_
    refine pf_MO_114 X G 0 rfl (rfl) (rfl) (Nat.le_of_ble_eq_true rfl) d_MO_arrive_40 (fun H locs G => ?_)
    have G : Gw D A zs.heap H locs [((o 0), .inr (5, [.int (nI cnt), .int (nI (B.1)), .int (nI lv), .ref (o 1), .ref (o 2), .ref (o 3), .ref (o 4), .ref (o 5), .ref (o 6), .ref (o 7), .ref (o 8), .int (bP (U)), .int (bP (V)), .int (nI dd), .int vi, .int fa, .int (so + nI 1), .ref (o 9), .ref (o 10), .ref (o 11), .ref (o 12)])), ((o 1), .inl (cI, 8, .inl dm)), ((o 2), .inl (cI, 16, .inl B.kd)), ((o 3), .inl (cI, 48, .inl B.mb)), ((o 4), .inl (cI, 16, .inl B.nu)), ((o 5), .inl (cI, 4, .inl B.sz)), ((o 6), .inl (cI, 144, .inl B.en)), ((o 7), .inl (cI, 80, .inl od)), ((o 8), .inl (cI, 10, .inl om)), ((o 9), .inl (cI, 8, .inl be)), ((o 10), .inl (cI, 8, .inl ke)), ((o 11), .inl (cI, 9, .inl (upd ch dd ((bst B dm cnt).1)))), ((o 12), .inl (cI, 9, .inl (upd tr dd (-1))))] := G
    refine lv_iload_n hx hb d_MO_arrive_43 rfl (lv_at hl 0 rfl) ?_
    refine zi_if_ge hx hb d_MO_arrive_44 rfl rfl (fun h44 => ?_) (fun h44 => ?_)
    · skip
      refine lv_iconst (v := (nI 1)) hx hb d_MO_arrive_51 (by decide) ?_
      exact z_ret X hrt hlk G (rfl) (⟨_, rfl, by first | exact Or.inr ⟨x, hxc, hbx, hop, rfl, rfl⟩ | exact absurd h31 (by omega)⟩) d_MO_arrive_52
    · skip
      refine lv_iconst (v := (nI 2)) hx hb d_MO_arrive_47 (by decide) ?_
      refine lv_goto hx hb d_MO_arrive_48 rfl ?_
      exact z_ret X hrt hlk G (rfl) (⟨_, rfl, by first | exact Or.inl ⟨hb1, rfl, rfl⟩ | exact absurd h31 (by omega)⟩) d_MO_arrive_52
